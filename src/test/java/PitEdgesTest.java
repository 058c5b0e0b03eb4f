import java.util.function.Supplier;

/** Boundary cases of promises 1 to 8, most with the sentence of the document that names them. */
public final class PitEdgesTest {
    private static final Check CHECK = new Check("PitEdgesTest");
    private static final String WORDS = "pit layer price lump";

    private static void due(String call, long got, long want) {
        CHECK.due(call, got, want);
    }

    public static void main(String[] args) {
        newObjectHasNothing();
        pitOfNothing();
        pitMakesRoomAgain();
        pitLeavesWhatItMay();
        layerEachItsOwn();
        priceEachItsOwn();
        lumpStartAndSize();
        lumpsAsTheyCome();
        lumpIsNotBurnt();
        typeEveryByte();
        typeUpToFull();
        clearIsEmpty();
        readEmptyOrBlank();
        readFullText();
        readEveryByteAhead();
        readEveryByteBehind();
        readEveryByteForANumber();
        readEveryByteForAnEnd();
        readFigures();
        readEveryBeginning();
        readPitOnceFirst();
        readItemBounds();
        readManyItems();
        readNinthLump();
        readFaultAheadOfItem();
        readRefusedChangesNothing();
        readIsToldAnew();
        readLeavesWhatItMay();
        CHECK.end();
    }

    /** "As told; no LUMPS.": nothing is empty in the wrong way, every asking call has an answer. */
    private static void newObjectHasNothing() {
        CoalWood x = new CoalWood();
        for (int lump = 0; lump < 8; lump++) {
            due("new: of(" + lump + ", 0)", x.of(lump, 0), CoalWood.BAD);
        }
        due("new: fewest(-1)", x.fewest(-1), 0);
        due("new: rows", x.rows(), 1);
        due("new: best(99, 0)", x.best(99, 0), 0);
        due("new: best(99, 1)", x.best(99, 1), 0);
        due("new: cut(6, -2)", x.cut(6, -2), 0);
        due("new: fits(0)", x.fits(0), 72);
        due("new: walks", x.walks(), 21992109L);
        due("new: leftTo", x.leftTo(), 0);
        due("new: drawn", x.drawn(999999, 60), 0);
        due("new: read", x.read(), -10);
        due("new: pit", x.pit(), 0);
        due("new: dark", x.dark(), 0);
        due("new: forget", x.forget(), 0);
        due("new: clear", x.clear(), 0);
        due("new: BAD", x.status(0), 8);
        due("new: NO", x.status(1), 0);
        due("new: FULL", x.status(2), 0);
    }

    /** "how many LUMPS there were": none. */
    private static void pitOfNothing() {
        Twins twins = new Twins(CHECK, CoalWood::new);
        due("pit of a new object", twins.allowed("pit", CoalWood::pit), 0);
        twins.areAlike("pit of a new object");
    }

    /** "All as at first": whatever was full is empty again, and LUMPS are told from 0 on. */
    private static void pitMakesRoomAgain() {
        CoalWood x = Pits.full();
        due("pit of eight", x.pit(), 8);
        for (int k = 0; k < 8; k++) {
            due("lump behind pit", x.lump(0, 0, 1), k);
            due("not BURNT behind pit", x.of(k, 3), 0);
        }
        for (int k = 1; k <= 10; k++) {
            due("evening behind pit", x.evening(0), k);
        }
        for (int k = 1; k <= 8; k++) {
            due("seen behind pit", x.seen(1, 12, -1), k);
        }
        for (int k = 1; k <= 6; k++) {
            due("glimpse behind pit", x.glimpse(0, 0, 0), k);
        }
        for (int k = 1; k <= 8; k++) {
            x.burn(k - 1);
            due("undone behind pit", x.count(7), k);
        }
        due("pit of eight again", x.pit(), 8);
        due("undo behind pit", x.undo(), CoalWood.NO);
    }

    /** "(but for IMAGES, THE TEXT, THE FRACTION, STATUS)" */
    private static void pitLeavesWhatItMay() {
        CoalWood x = Pits.brimful();
        CoalWood y = Pits.brimful();
        x.burn(2);
        x.burn(9);
        x.lump(0, 0, 1);
        x.pit();
        due("pit leaves BAD", x.status(0), 1);
        due("pit leaves NO", x.status(1), 1);
        due("pit leaves FULL", x.status(2), 1);
        due("pit leaves THE FRACTION above", x.part(0), y.part(0));
        due("pit leaves THE FRACTION below", x.part(1), y.part(1));
        due("pit leaves THE TEXT's length", x.count(8), 150);
        for (int i = 0; i < 2; i++) {
            due("pit leaves IMAGES", x.from(i), 1);
            y.from(i);
            due("pit leaves what IMAGES keep", x.digest(), y.digest());
        }
        x.pit();
        due("pit leaves THE TEXT", x.read(), y.read());
        due("pit leaves what THE TEXT tells", x.digest(), y.digest());
    }

    /** "LAYERS 0 .. 11 of a seam, each a WEATHER (0 .. 5; 0 at first)"; "WEATHER of a LAYER: what it was." */
    private static void layerEachItsOwn() {
        CoalWood x = new CoalWood();
        for (int l = 0; l < 12; l++) {
            for (int weather = 0; weather <= 5; weather++) {
                due("layer(" + l + ", " + weather + ")", x.layer(l, weather), weather == 0 ? 0 : weather - 1);
            }
            due("layer " + l + " again", x.layer(l, l % 6), 5);
        }
        for (int l = 0; l < 12; l++) {
            due("layer " + l + " as told", x.layer(l, l % 6), l % 6);
        }
    }

    /** "PRICES of WEATHERS (0 .. 9; 1 each at first)"; "The PRICE of a WEATHER: what it was." */
    private static void priceEachItsOwn() {
        CoalWood x = new CoalWood();
        for (int weather = 0; weather <= 5; weather++) {
            int was = 1;
            for (int n = 0; n <= 9; n++) {
                due("price(" + weather + ", " + n + ")", x.price(weather, n), was);
                was = n;
            }
            x.price(weather, weather + 4);
        }
        for (int weather = 0; weather <= 5; weather++) {
            due("price of " + weather + " as told", x.price(weather, 0), weather + 4);
        }
    }

    /** "the LAYER a where it begins, its SIZE n (1 .. 6; a and n 12 at most)" */
    private static void lumpStartAndSize() {
        for (int kind = -1; kind <= 6; kind++) {
            CoalWood x = new CoalWood();
            int bad = 0;
            for (int a = -1; a <= 13; a++) {
                for (int n = -1; n <= 8; n++) {
                    boolean right = kind >= 0 && kind <= 5 && a >= 0 && n >= 1 && n <= 6 && a + n <= 12;
                    due("lump(" + kind + ", " + a + ", " + n + ")", x.lump(kind, a, n), right ? 0 : CoalWood.BAD);
                    bad += right ? 0 : 1;
                    if (right) {
                        due("LAYER a", x.of(0, 1), a);
                        due("SIZE", x.of(0, 2), n);
                        x.pit();
                    }
                }
            }
            due("BAD lumps of kind " + kind, x.status(0), bad);
            due("FULL lumps of kind " + kind, x.status(2), 0);
        }
        CoalWood x = new CoalWood();
        due("a and n wrap around", x.lump(0, Integer.MAX_VALUE, 6), CoalWood.BAD);
        due("a and n wrap around", x.lump(0, Integer.MIN_VALUE, 1), CoalWood.BAD);
        due("a and n wrap around", x.lump(0, 6, Integer.MAX_VALUE), CoalWood.BAD);
        due("a and n wrap around", x.lump(0, 12, Integer.MIN_VALUE), CoalWood.BAD);
    }

    /** "LUMPS 0 .. 7, as they come"; "A LUMP: its number. BAD; FULL: 8." */
    private static void lumpsAsTheyCome() {
        CoalWood x = new CoalWood();
        for (int k = 0; k < 8; k++) {
            due("of the lump that is not there yet", x.of(k, 0), CoalWood.BAD);
            due("lump, the " + k + "-th", x.lump(5 - k % 6, k, 1 + k % 4), k);
        }
        due("lump, FULL", x.lump(0, 0, 1), CoalWood.FULL);
        due("lump, FULL again", x.lump(5, 11, 1), CoalWood.FULL);
        due("LUMPS", x.count(0), 8);
        due("of the ninth", x.of(8, 0), CoalWood.BAD);
        for (int k = 0; k < 8; k++) {
            due("KIND of " + k, x.of(k, 0), 5 - k % 6);
            due("LAYER of " + k, x.of(k, 1), k);
            due("SIZE of " + k, x.of(k, 2), 1 + k % 4);
        }
        due("BAD", x.status(0), 9);
        due("FULL", x.status(2), 2);
    }

    /** "not BURNT": a new lump is not, though all ahead of it are. */
    private static void lumpIsNotBurnt() {
        CoalWood x = new CoalWood();
        for (int k = 0; k < 8; k++) {
            x.lump(0, k, 1);
            due("not BURNT", x.of(k, 3), 0);
            due("burnt", x.burn(k), 1);
            due("BURNT", x.of(k, 3), 1);
            due("BURNT, as bits", x.count(1), (2 << k) - 1);
            due("may be undone", x.count(7), 1);
        }
    }

    /** "A byte (0 .. 127) comes behind THE TEXT: how many it has." */
    private static void typeEveryByte() {
        CoalWood x = new CoalWood();
        for (int c = 0; c <= 127; c++) {
            due("type(" + c + ")", x.type(c), c + 1);
        }
        due("type(128)", x.type(128), CoalWood.BAD);
        due("type(255)", x.type(255), CoalWood.BAD);
        due("type(256)", x.type(256), CoalWood.BAD);
        due("type(-128)", x.type(-128), CoalWood.BAD);
        due("bytes", x.count(8), 128);
    }

    /** "THE PIT is a TEXT (150 bytes at most)"; "FULL: 150." */
    private static void typeUpToFull() {
        CoalWood x = new CoalWood();
        for (int k = 1; k <= 149; k++) {
            x.type(' ');
        }
        due("the 150th", x.type('p'), 150);
        due("the 151st", x.type('i'), CoalWood.FULL);
        due("the 152nd", x.type('t'), CoalWood.FULL);
        due("bytes", x.count(8), 150);
        due("the last byte is p", x.read(), -10 - 149);
        due("FULL", x.status(2), 2);
        due("clear", x.clear(), 150);
        for (int k = 1; k <= 150; k++) {
            due("again, the " + k + "th", x.type(0), k);
        }
        due("again, the 151st", x.type(0), CoalWood.FULL);
    }

    /** "THE TEXT is empty: how many it had.": nothing but it changes. */
    private static void clearIsEmpty() {
        CoalWood x = Pits.brimful();
        CoalWood y = Pits.brimful();
        due("clear of 150", x.clear(), 150);
        due("clear of none", x.clear(), 0);
        due("count(8)", x.count(8), 0);
        due("read of a cleared text", x.read(), -10);
        for (int what = 0; what < 8; what++) {
            due("clear leaves count(" + what + ")", x.count(what), y.count(what));
        }
        due("type behind clear", x.type('p'), 1);
        due("read behind clear", x.read(), -10 - 0);
        x.type('i');
        x.type('t');
        x.type(';');
        due("nothing is left of the text that was", x.read(), 1);
        due("STATUS", x.status(0) + x.status(1) + x.status(2), 0);
    }

    /** "the TEXT's length, if it ends too early (an empty one, too)" */
    private static void readEmptyOrBlank() {
        for (int blanks = 0; blanks <= 150; blanks += 15) {
            CoalWood x = new CoalWood();
            due("read of " + blanks + " blanks", Pits.read(x, " ".repeat(blanks)), -10 - blanks);
        }
    }

    private static void readFullText() {
        CoalWood x = new CoalWood();
        due("150 bytes", Pits.read(x, Pits.filled("pit;lump 5 6 6;")), 2);
        due("150 bytes: the lump", x.of(0, 1), 6);
        due("150 bytes, the last a blank", Pits.read(x, " ".repeat(145) + "pit; "), 1);
        due("150 bytes, without the end", Pits.read(new CoalWood(), Pits.filled("pit;lump 5 6 6 ")), -160);
        due("150 bytes, a fault in the last", Pits.read(new CoalWood(), Pits.filled("pit;lump 5 6 6:")), -159);
        due("150 bytes, an end too many", Pits.read(new CoalWood(), Pits.filled("pit;lump 5 6 6;;")), -159);
    }

    /** "a byte that begins none, too"; "anything ahead of it": any byte but a blank ahead of pit is a fault there. */
    private static void readEveryByteAhead() {
        for (int c = 0; c <= 127; c++) {
            CoalWood x = new CoalWood();
            x.type(c);
            for (char next : "pit;".toCharArray()) {
                x.type(next);
            }
            due("byte " + c + " ahead of pit", x.read(), c == ' ' ? 1 : -10);
        }
    }

    /** Behind an ITEM only a blank or a word may come. */
    private static void readEveryByteBehind() {
        for (int c = 0; c <= 127; c++) {
            CoalWood x = new CoalWood();
            for (char next : "pit; ".toCharArray()) {
                x.type(next);
            }
            x.type(c);
            due("byte " + c + " behind an item", x.read(), c == ' ' ? 1 : -15);
        }
    }

    private static void readEveryByteForANumber() {
        for (int c = 0; c <= 127; c++) {
            CoalWood x = new CoalWood();
            Pits.type(x, "pit;price 4 ");
            x.type(c);
            x.type(';');
            int want = c == ' ' ? -10 - 13 : c >= '0' && c <= '9' ? 2 : -10 - 12;
            due("byte " + c + " for a number", x.read(), want);
        }
    }

    private static void readEveryByteForAnEnd() {
        for (int c = 0; c <= 127; c++) {
            CoalWood x = new CoalWood();
            Pits.type(x, "pit;price 4 7");
            x.type(c);
            int want = c == ' ' ? -10 - 14 : c == ';' ? 2 : -10 - 13;
            if (c >= '0' && c <= '9') {
                want = -10 - 14;
            }
            due("byte " + c + " for an end", x.read(), want);
        }
    }

    /** "figures that stand together (a number; of more than 2 it is none)" */
    private static void readFigures() {
        CoalWood x = new CoalWood();
        due("one figure", Pits.read(x, "pit;layer 9 5;"), 2);
        due("two figures", Pits.read(x, "pit;layer 11 05;"), 2);
        due("two figures: as told", x.layer(11, 0), 5);
        due("two noughts", Pits.read(x, "pit;layer 00 3;"), 2);
        due("two noughts: as told", x.layer(0, 0), 3);
        due("99", Pits.read(x, "pit;layer 99 0;"), -1001);
        due("three figures", Pits.read(x, "pit;layer 100 0;"), -20);
        due("three figures of a small number", Pits.read(x, "pit;layer 001 0;"), -20);
        due("three noughts at last", Pits.read(x, "pit;lump 0 0 000;"), -23);
        due("many figures", Pits.read(x, "pit;layer " + "1".repeat(138) + ";"), -20);
        due("4294967296", Pits.read(x, "pit;layer 4294967296 0;"), -20);
        due("three figures where an end is due", Pits.read(x, "pit;layer 1 0 123;"), -24);
        due("three figures where a word is due", Pits.read(x, "pit;123;"), -14);
        due("three figures first of all", Pits.read(x, "123"), -10);
        due("two figures apart are two numbers", Pits.read(x, "pit;layer 1 1;"), 2);
        due("a blank parts a number", Pits.read(x, "pit;layer 1 1 1;"), -24);
    }

    /** Every beginning of a text ends too early, but behind an end; within a word it is a word that is none. */
    private static void readEveryBeginning() {
        String text = " pit ; layer 3 2;price 2 07 ;lump 4 10 1 ; ";
        for (int length = 0; length <= text.length(); length++) {
            String begun = text.substring(0, length);
            due("read of '" + begun + "'", Pits.read(new CoalWood(), begun), begunDue(begun));
        }
    }

    private static int begunDue(String begun) {
        String last = begun.replaceAll(".*[^a-z]", "");
        boolean isWord = WORDS.matches("(.* )?" + last + "( .*)?");
        if (!last.isEmpty() && !isWord) {
            return -10 - (begun.length() - last.length());
        }
        String[] items = begun.trim().split(";", -1);
        boolean ended = items.length > 1 && items[items.length - 1].isEmpty();
        return ended ? items.length - 1 : -10 - begun.length();
    }

    /** "pit (once, first of all)"; "pit again, anything ahead of it" */
    private static void readPitOnceFirst() {
        CoalWood x = new CoalWood();
        String[] items = {"layer 0 0;", "price 0 0;", "lump 0 0 1;"};
        for (String item : items) {
            due("ahead of pit: " + item, Pits.read(x, item + "pit;"), -10);
            due("without pit: " + item, Pits.read(x, item), -10);
            due("pit again behind " + item, Pits.read(x, "pit;" + item + "pit;"), -14 - item.length());
        }
        due("pit again at once", Pits.read(x, "pit;pit;"), -14);
        due("pit again without an end", Pits.read(x, "pit;pit"), -14);
        due("pit pit", Pits.read(x, "pit pit;"), -14);
        due("pitpit", Pits.read(x, "pitpit;"), -10);
    }

    private static void item(String item, boolean right) {
        CoalWood x = new CoalWood();
        due("read of pit;" + item, Pits.read(x, "pit;" + item), right ? 2 : -1001);
        due("read of pit;price 0 1;" + item, Pits.read(x, "pit;price 0 1;" + item), right ? 3 : -1002);
        due("STATUS behind " + item, x.status(0) + x.status(1) + x.status(2), 0);
    }

    /** "the first ITEM (0 on) that is refused (as its call is)": each number's last right one and first wrong one. */
    private static void readItemBounds() {
        for (int n = 0; n <= 99; n++) {
            item("layer " + n + " 5;", n <= 11);
            item("layer 11 " + n + ";", n <= 5);
            item("price " + n + " 9;", n <= 5);
            item("price 5 " + n + ";", n <= 9);
            item("lump " + n + " 0 6;", n <= 5);
            item("lump 5 " + n + " 1;", n <= 11);
            item("lump 5 " + n + " 6;", n <= 6);
            item("lump 0 6 " + n + ";", n >= 1 && n <= 6);
            item("lump 0 9 " + n + ";", n >= 1 && n <= 3);
        }
    }

    /** "how many ITEMS"; "-1000 less the number of the first ITEM that is refused" */
    private static void readManyItems() {
        CoalWood x = new CoalWood();
        String sixteen = "pit;" + "price0 7;".repeat(16);
        due("17 items", Pits.read(x, sixteen), 17);
        due("17 items, the last refused", Pits.read(x, sixteen.replaceAll("7;$", "10;")), -1016);
        due("still as told", x.price(0, 7), 7);
        due("STATUS", x.status(0) + x.status(1) + x.status(2), 0);
        CoalWood y = new CoalWood();
        due("the last two refused", Pits.read(y, sixteen.replaceAll("0 7;price0 7;$", "0 10;price6 7;")), -1015);
        due("all but pit refused", Pits.read(y, sixteen.replaceAll("0 7", "6 7")), -1001);
    }

    /** A lump that is one too many is refused as FULL, so its item is; nothing of the LUMPS there are counts. */
    private static void readNinthLump() {
        CoalWood x = Pits.middle();
        String eight = "pit;" + "lump0 0 1;".repeat(8);
        due("eight lumps", Pits.read(x, eight), 9);
        due("eight lumps again", x.read(), 9);
        due("LUMPS", x.count(0), 8);
        due("nine lumps", Pits.read(x, eight + "lump0 0 1;"), -1009);
        due("an item behind the ninth", Pits.read(x, eight + "lump0 0 1;layer 12 0;"), -1009);
        due("an item ahead of the ninth", Pits.read(x, eight + "layer 12 0;lump0 0 1;"), -1009);
        due("LUMPS then", x.count(0), 8);
        due("FULL", x.status(2), 0);
    }

    /** "A PIT without a FAULT is told anew": a fault anywhere goes ahead of a refused item. */
    private static void readFaultAheadOfItem() {
        CoalWood x = new CoalWood();
        due("refused, then a fault", Pits.read(x, "pit;layer 12 0;;"), -25);
        due("refused, then too early an end", Pits.read(x, "pit;layer 12 0;lump 0 0 1"), -35);
        due("refused, then pit again", Pits.read(x, "pit;layer 12 0;pit;"), -25);
        due("refused, then blanks", Pits.read(x, "pit;layer 12 0;   "), -1001);
    }

    private static void unchanged(String text, int answer) {
        String name = "read of '" + text + "'";
        unchanged(name, () -> typed(Pits.middle(), text), answer);
        unchanged(name, () -> typed(Pits.brimful(), text), answer);
    }

    private static void unchanged(String name, Supplier<CoalWood> made, int answer) {
        new Twins(CHECK, made).answers(name, CoalWood::read, answer, Twins.NOWHERE).areAlike(name);
    }

    private static CoalWood typed(CoalWood x, String text) {
        Pits.type(x, text);
        return x;
    }

    /** "-10 less the FAULT; -1000 less the number ..: nothing changes."; "ITEMS are none" in STATUS. */
    private static void readRefusedChangesNothing() {
        unchanged("", -10);
        unchanged("pit", -13);
        unchanged("pit;layer 0 5;price 0 9;lump 1 1 1;pit;", -10 - 35);
        unchanged("pit;layer 0 5;price 0 9;lump 1 1 1", -10 - 34);
        unchanged("pit;layer 0 5;price 0 9;lump 1 1 1;layer 0 6;", -1004);
        unchanged("pit;layer 12 5;price 0 9;lump 1 1 1;", -1001);
        unchanged("pit;" + "lump0 0 1;".repeat(9), -1009);
    }

    /** "told anew by these alone, in their order" */
    private static void readIsToldAnew() {
        CoalWood x = Pits.middle();
        CoalWood y = new CoalWood();
        String text = "pit;layer 3 2;price 2 7;lump 4 2 5;layer 3 1;";
        due("items", Pits.read(x, text), 5);
        y.layer(3, 1);
        y.price(2, 7);
        y.lump(4, 2, 5);
        Pits.type(y, text);
        y.odds(0, 1, 10);
        x.odds(0, 1, 10);
        due("by these alone", x.digest(), y.digest());
        due("again", x.read(), 5);
        due("again, the same", x.digest(), y.digest());
        x.burn(0);
        due("behind a fire", x.read(), 5);
        due("behind a fire, the same", x.digest(), y.digest());
        due("nothing may be undone", x.undo(), CoalWood.NO);
    }

    private static void readLeavesWhatItMay() {
        CoalWood x = Pits.brimful();
        CoalWood y = Pits.brimful();
        x.burn(9);
        x.undo();
        y.undo();
        due("items", x.read(), 5);
        due("THE TEXT stays", x.count(8), 150);
        due("THE FRACTION stays", x.part(0), y.part(0));
        due("THE FRACTION stays", x.part(1), y.part(1));
        due("STATUS stays", x.status(0), 1);
        for (int i = 0; i < 2; i++) {
            due("IMAGES stay", x.from(i), y.from(i));
            due("IMAGES stay as they were", x.digest(), y.digest());
        }
    }
}
