/** Pits that several tests begin with. */
final class Pits {
    private Pits() {
    }

    /** A seam of 1 1 2 3 3 1 2 0 0 0 0 5 with prices 1 3 0 1 1 9, without lumps. */
    static CoalWood seam() {
        CoalWood x = new CoalWood();
        int[] weathers = {1, 1, 2, 3, 3, 1, 2, 0, 0, 0, 0, 5};
        for (int l = 0; l < weathers.length; l++) {
            x.layer(l, weathers[l]);
        }
        x.price(1, 3);
        x.price(2, 0);
        x.price(5, 9);
        return x;
    }

    /** The seam with a lump of each kind, 0 to 5, of size 3 from layer 3 on: weathers 3 3 1. */
    static CoalWood kinds() {
        CoalWood x = seam();
        for (int kind = 0; kind < 6; kind++) {
            x.lump(kind, 3, 3);
        }
        return x;
    }

    /** A pit in which nothing is as at first, and all that can be full is. */
    static CoalWood full() {
        CoalWood x = kinds();
        x.lump(0, 0, 6);
        x.lump(5, 6, 6);
        x.burn(2);
        x.burn(4);
        for (int k = 0; k < 10; k++) {
            x.evening(k % 6);
        }
        for (int k = 0; k < 8; k++) {
            x.seen(4, k, k % 3 - 1);
        }
        for (int k = 0; k < 6; k++) {
            x.glimpse(2 * k, k, 0);
        }
        for (int k = 0; k < 150; k++) {
            x.type(32 + k % 90);
        }
        x.odds(0, 1, 3);
        return x;
    }

    static void type(CoalWood x, String text) {
        x.clear();
        for (int k = 0; k < text.length(); k++) {
            x.type(text.charAt(k));
        }
    }

    static int read(CoalWood x, String text) {
        type(x, text);
        return x.read();
    }
}
