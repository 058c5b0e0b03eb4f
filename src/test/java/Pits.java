/** Pits that several tests begin with. */
final class Pits {
    private Pits() {
    }

    /** A seam of 1 1 2 3 3 1 2 0 0 0 0 5 with prices 1 3 0 1 1 9, without lumps. */
    static CoalWood seam() {
        CoalWood x = new CoalWood();
        int[] weathers = {1, 1, 2, 3, 3, 1, 2, 0, 0, 0, 0, 5};
        for (int l = 0; l < weathers.length; l++) {
            x.layer(l, weathers[l]);
        }
        x.price(1, 3);
        x.price(2, 0);
        x.price(5, 9);
        return x;
    }

    /** The seam with a lump of each kind, 0 to 5, of size 3 from layer 3 on: weathers 3 3 1. */
    static CoalWood kinds() {
        CoalWood x = seam();
        for (int kind = 0; kind < 6; kind++) {
            x.lump(kind, 3, 3);
        }
        return x;
    }

    /** A pit in which nothing is as at first, and all that can be full is, but THE TEXT. */
    private static CoalWood packed() {
        CoalWood x = kinds();
        x.lump(0, 0, 6);
        x.lump(5, 6, 6);
        x.burn(2);
        x.burn(4);
        for (int k = 0; k < 10; k++) {
            x.evening(k % 6);
        }
        for (int k = 0; k < 8; k++) {
            x.seen(4, k, k % 3 - 1);
        }
        for (int k = 0; k < 6; k++) {
            x.glimpse(2 * k, k, 0);
        }
        x.odds(0, 1, 3);
        return x;
    }

    /** All that can be full is; THE TEXT tells nothing; no image is kept. */
    static CoalWood full() {
        CoalWood x = packed();
        for (int k = 0; k < 150; k++) {
            x.type(32 + k % 90);
        }
        return x;
    }

    /** Six lumps, something of all there is, nothing full; both images kept; THE TEXT tells another pit. */
    static CoalWood middle() {
        CoalWood x = kinds();
        x.burn(5);
        x.image(0);
        x.burn(1);
        x.price(3, 4);
        x.evening(3);
        x.evening(1);
        x.seen(3, 0, 3);
        x.glimpse(4, 4, 1);
        x.image(1);
        x.burn(2);
        x.undo();
        x.layer(7, 4);
        x.odds(0, 1, 3);
        type(x, "pit;layer 3 2;price 2 7;lump 4 2 5;");
        return x;
    }

    /** All that can be full is; both images kept; THE TEXT of 150 bytes tells another pit. */
    static CoalWood brimful() {
        CoalWood x = packed();
        x.image(1);
        x.burn(7);
        x.image(0);
        x.burn(0);
        type(x, filled("pit;layer 3 2;price 2 7;lump 4 2 5;lump 5 1 6;"));
        return x;
    }

    /** The text with as many blanks ahead of its last byte as make it 150 bytes. */
    static String filled(String text) {
        int last = text.length() - 1;
        return text.substring(0, last) + " ".repeat(149 - last) + text.charAt(last);
    }

    static void type(CoalWood x, String text) {
        x.clear();
        for (int k = 0; k < text.length(); k++) {
            x.type(text.charAt(k));
        }
    }

    static int read(CoalWood x, String text) {
        type(x, text);
        return x.read();
    }
}
