/** Promises 1 to 8: a pit, and a pit told by a text. */
public final class PitTest {
    private static final Check CHECK = new Check("PitTest");

    private static void due(String call, long got, long want) {
        CHECK.due(call, got, want);
    }

    public static void main(String[] args) {
        newObject();
        pit();
        layer();
        price();
        lump();
        typeAndClear();
        readTellsAnew();
        readFaults();
        readRefused();
        CHECK.end();
    }

    /** Promise 1. */
    private static void newObject() {
        CoalWood x = new CoalWood();
        for (int what = 0; what <= 8; what++) {
            due("new: count(" + what + ")", x.count(what), 0);
        }
        for (int what = 0; what <= 2; what++) {
            due("new: status(" + what + ")", x.status(what), 0);
        }
        due("new: part(0)", x.part(0), 0);
        due("new: part(1)", x.part(1), 1);
        for (int l = 0; l < 12; l++) {
            due("new: layer", x.layer(l, 0), 0);
        }
        for (int w = 0; w < 6; w++) {
            due("new: price", x.price(w, 1), 1);
        }
        due("new: of", x.of(0, 0), CoalWood.BAD);
        due("new: undo", x.undo(), CoalWood.NO);
        due("new: from(0)", x.from(0), CoalWood.NO);
        due("new: from(1)", x.from(1), CoalWood.NO);
    }

    /** Promise 2. */
    private static void pit() {
        CoalWood x = Pits.full();
        long above = x.part(0);
        long below = x.part(1);
        x.image(1);
        long image = x.digest();
        x.burn(4);
        due("pit of 8", x.pit(), 8);
        due("pit of none", x.pit(), 0);
        for (int what = 0; what <= 7; what++) {
            due("behind pit: count(" + what + ")", x.count(what), 0);
        }
        due("pit leaves THE TEXT", x.count(8), 150);
        due("pit leaves THE FRACTION above", x.part(0), above);
        due("pit leaves THE FRACTION below", x.part(1), below);
        due("pit leaves STATUS", x.status(1), 1);
        due("behind pit: fits(0), SIZE 1", x.fits(0), 72);
        due("behind pit: walks", x.walks(), 21992109L);
        for (int l = 0; l < 12; l++) {
            due("behind pit: layer", x.layer(l, 0), 0);
        }
        for (int w = 0; w < 6; w++) {
            due("behind pit: price", x.price(w, 1), 1);
        }
        due("pit leaves IMAGES: from(1)", x.from(1), 1);
        due("pit leaves IMAGES: digest", x.digest(), image);
        due("pit leaves IMAGES: from(0)", x.from(0), CoalWood.NO);
    }

    /** Promise 3. */
    private static void layer() {
        CoalWood x = new CoalWood();
        due("layer(0, 5)", x.layer(0, 5), 0);
        due("layer(0, 2)", x.layer(0, 2), 5);
        due("layer(11, 3)", x.layer(11, 3), 0);
        due("layer(11, 0)", x.layer(11, 0), 3);
        due("layer(-1, 0)", x.layer(-1, 0), CoalWood.BAD);
        due("layer(12, 0)", x.layer(12, 0), CoalWood.BAD);
        due("layer(0, -1)", x.layer(0, -1), CoalWood.BAD);
        due("layer(0, 6)", x.layer(0, 6), CoalWood.BAD);
        due("layer(min, max)", x.layer(Integer.MIN_VALUE, Integer.MAX_VALUE), CoalWood.BAD);
        due("layer(0, 0)", x.layer(0, 0), 2);
        due("status(0)", x.status(0), 5);
    }

    /** Promise 4. */
    private static void price() {
        CoalWood x = new CoalWood();
        due("price(0, 9)", x.price(0, 9), 1);
        due("price(0, 0)", x.price(0, 0), 9);
        due("price(5, 4)", x.price(5, 4), 1);
        due("price(-1, 1)", x.price(-1, 1), CoalWood.BAD);
        due("price(6, 1)", x.price(6, 1), CoalWood.BAD);
        due("price(0, -1)", x.price(0, -1), CoalWood.BAD);
        due("price(0, 10)", x.price(0, 10), CoalWood.BAD);
        due("price(0, 1)", x.price(0, 1), 0);
        due("price(5, 4)", x.price(5, 4), 4);
        due("status(0)", x.status(0), 4);
    }

    /** Promise 5. */
    private static void lump() {
        CoalWood x = new CoalWood();
        due("lump(-1, 0, 1)", x.lump(-1, 0, 1), CoalWood.BAD);
        due("lump(6, 0, 1)", x.lump(6, 0, 1), CoalWood.BAD);
        due("lump(0, -1, 1)", x.lump(0, -1, 1), CoalWood.BAD);
        due("lump(0, 12, 1)", x.lump(0, 12, 1), CoalWood.BAD);
        due("lump(0, 0, 0)", x.lump(0, 0, 0), CoalWood.BAD);
        due("lump(0, 0, 7)", x.lump(0, 0, 7), CoalWood.BAD);
        due("lump(0, 7, 6)", x.lump(0, 7, 6), CoalWood.BAD);
        due("lump(0, max, 1)", x.lump(0, Integer.MAX_VALUE, 1), CoalWood.BAD);
        due("lump(0, max, max)", x.lump(0, Integer.MAX_VALUE, Integer.MAX_VALUE), CoalWood.BAD);
        due("lump(0, 0, min)", x.lump(0, 0, Integer.MIN_VALUE), CoalWood.BAD);
        due("lump(0, 6, 6)", x.lump(0, 6, 6), 0);
        due("lump(5, 11, 1)", x.lump(5, 11, 1), 1);
        for (int k = 2; k < 8; k++) {
            due("lump, the " + k + "th", x.lump(k % 6, k, 2), k);
        }
        due("lump, the 9th", x.lump(0, 0, 1), CoalWood.FULL);
        due("lump, BAD ahead of FULL", x.lump(0, 0, 7), CoalWood.BAD);
        due("count(0)", x.count(0), 8);
        due("status(0)", x.status(0), 11);
        due("status(2)", x.status(2), 1);
        due("of(1, 0)", x.of(1, 0), 5);
        due("of(1, 1)", x.of(1, 1), 11);
        due("of(0, 2)", x.of(0, 2), 6);
    }

    /** Promises 6 and 7. */
    private static void typeAndClear() {
        CoalWood x = new CoalWood();
        due("clear, empty", x.clear(), 0);
        due("type(-1)", x.type(-1), CoalWood.BAD);
        due("type(128)", x.type(128), CoalWood.BAD);
        due("type(0)", x.type(0), 1);
        due("type(127)", x.type(127), 2);
        for (int k = 3; k <= 150; k++) {
            due("type, the " + k + "th", x.type(' '), k);
        }
        due("type, the 151st", x.type(' '), CoalWood.FULL);
        due("type, BAD ahead of FULL", x.type(128), CoalWood.BAD);
        due("count(8)", x.count(8), 150);
        due("clear of 150", x.clear(), 150);
        due("count(8) then", x.count(8), 0);
        due("clear again", x.clear(), 0);
        due("type then", x.type('p'), 1);
        due("status(0)", x.status(0), 3);
        due("status(2)", x.status(2), 1);
    }

    /** Promise 8: what a text without a fault does. */
    private static void readTellsAnew() {
        CoalWood x = Pits.full();
        x.image(0);
        due("read of pit alone", Pits.read(x, "pit;"), 1);
        for (int what = 0; what <= 7; what++) {
            due("behind read: count(" + what + ")", x.count(what), 0);
        }
        due("read leaves THE TEXT", x.count(8), 4);
        due("read leaves THE FRACTION", x.part(1), 1000);
        due("behind read: fits(0), SIZE 1", x.fits(0), 72);
        due("read again", x.read(), 1);
        due("read of many", Pits.read(x, "  pit ; layer 0 4;layer11 5;price 4 09;lump 3 0 2;lump5 7 5 ; "), 6);
        due("layer 0", x.layer(0, 4), 4);
        due("layer 11", x.layer(11, 5), 5);
        due("price 4", x.price(4, 9), 9);
        due("lumps", x.count(0), 2);
        due("of(0, 6)", x.of(0, 6), 20);
        due("of(1, 0)", x.of(1, 0), 5);
        due("of(1, 1)", x.of(1, 1), 7);
        due("of(1, 2)", x.of(1, 2), 5);
        x.burn(0);
        due("read: the same item twice, in their order", Pits.read(x, "pit;layer 2 1;layer 2 3;"), 3);
        due("the later one stands", x.layer(2, 0), 3);
        due("read leaves nothing to undo", x.undo(), CoalWood.NO);
        due("read leaves IMAGES", x.from(0), 1);
        due("from(0) then", x.count(0), 8);
    }

    private static void fault(String text, int place) {
        CoalWood x = Pits.kinds();
        x.burn(1);
        x.evening(2);
        Pits.type(x, text);
        long state = x.digest();
        due("read of '" + text + "'", x.read(), -10 - place);
        due("state behind '" + text + "'", x.digest(), state);
        due("status(0) behind '" + text + "'", x.status(0), 0);
        due("undo behind '" + text + "'", x.undo(), 0);
    }

    /** Promise 8: faults. */
    private static void readFaults() {
        fault("", 0);
        fault("   ", 3);
        fault("pit", 3);
        fault("pit ", 4);
        fault("pi;", 0);
        fault(" pits;", 1);
        fault("Pit;", 0);
        fault("\tpit;", 0);
        fault(";", 0);
        fault("7", 0);
        fault("layer 0 1;", 0);
        fault("pit;pit;", 4);
        fault("pit; lump 0 0 1; pit;", 17);
        fault("pit;;", 4);
        fault("pit 1;", 4);
        fault("pit1;", 3);
        fault("pit;3;", 4);
        fault("pit;coal 1 1;", 4);
        fault("qit;", 0);
        fault("pit;mayer 0 0;", 4);
        fault("pit;brice 0 0;", 4);
        fault("pit;dump 0 0 1;", 4);
        fault("pit;lumps 0 0 1;", 4);
        fault("pit;la", 4);
        fault("pit;layer", 9);
        fault("pit;layer 1", 11);
        fault("pit;layer 1  ", 13);
        fault("pit;layer 1;", 11);
        fault("pit;layer 1 2", 13);
        fault("pit;layer 1 2 3;", 14);
        fault("pit;layer 123 2;", 10);
        fault("pit;layer 1 000;", 12);
        fault("pit;layer 1 x;", 12);
        fault("pit;layer 1 -1;", 12);
        fault("pit;lump 0 0;", 12);
        fault("pit;lump 0 0 1 1;", 15);
        fault("pit;lump 0 0 lump;", 13);
        fault("pit;layer 1 2pit;", 13);
        fault("pit;layer 1,2;", 11);
        fault("pit;price 1 2;{", 14);
        fault("pit;price 1 2;`", 14);
        fault("pit;price 1 2:", 13);
        fault("pit;price 1 2/", 13);
        fault("pit;layer 12 0;lump;", 19);
        fault("pit;layer 12 0;" + (char) 0, 15);
    }

    private static void refused(String text, int item) {
        CoalWood x = Pits.kinds();
        x.burn(1);
        x.seen(2, 1, 1);
        Pits.type(x, text);
        long state = x.digest();
        due("read of '" + text + "'", x.read(), -1000 - item);
        due("state behind '" + text + "'", x.digest(), state);
        due("ITEMS are none in STATUS", x.status(0) + x.status(1) + x.status(2), 0);
    }

    /** Promise 8: items that are refused. */
    private static void readRefused() {
        refused("pit;layer 12 0;", 1);
        refused("pit;layer 0 6;price 6 1;", 1);
        refused("pit;layer 0 5;price 6 1;", 2);
        refused("pit;price 0 10;", 1);
        refused("pit;lump 0 0 1;lump 0 7 6;lump 0 6 6;", 2);
        refused("pit;lump 6 0 1;", 1);
        refused("pit;lump 0 0 0;", 1);
        String nine = "pit;";
        for (int k = 0; k < 9; k++) {
            nine += "lump" + k % 6 + " 0 1;";
        }
        refused(nine, 9);
        refused(nine + "layer 99 99;", 9);
        CoalWood x = new CoalWood();
        due("eight lumps", Pits.read(x, nine.substring(0, nine.length() - 10)), 9);
        due("eight lumps: count(0)", x.count(0), 8);
        due("nine, then", Pits.read(x, nine), -1009);
        due("nine, then: count(0)", x.count(0), 8);
        due("one lump", Pits.read(x, "pit;lump 2 0 3;"), 2);
        due("refused behind it", Pits.read(x, "pit;lump 1 1 1;lump 1 1 1;layer 12 0;"), -1003);
        due("one lump still", x.count(0), 1);
        due("and the same", x.of(0, 0), 2);
        due("a fault behind it", Pits.read(x, "pit;lump 1 1 1;lump 1 1 1"), -35);
        due("one lump still", x.count(0), 1);
        x.clear();
        due("as many items as a text can hold", Pits.read(x, "pit;" + "price0 1;".repeat(16)), 17);
    }
}
