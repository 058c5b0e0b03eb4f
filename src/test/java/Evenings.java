/** What tests of promises 15 to 20 ask again and again. */
final class Evenings {
    private final Check check;

    Evenings(Check check) {
        this.check = check;
    }

    static void tell(CoalWood x, int... weathers) {
        x.dark();
        for (int weather : weathers) {
            x.evening(weather);
        }
    }

    /** Looks at the whole row of the fewest, and behind it. */
    void fewest(String what, CoalWood x, int... lumps) {
        check.due(what + ": how many", x.fewest(CoalWood.NONE), lumps.length);
        for (int i = 0; i < lumps.length; i++) {
            check.due(what + ": the " + i + "-th", x.fewest(i), lumps[i]);
        }
        check.due(what + ": not so many", x.fewest(lumps.length), -5);
        check.due(what + ": not so many", x.fewest(Integer.MAX_VALUE), -5);
    }

    void none(String what, CoalWood x) {
        check.due(what + ": none", x.fewest(CoalWood.NONE), -5);
        check.due(what + ": the 0-th of none", x.fewest(0), -5);
        check.due(what + ": rows", x.rows(), 0);
    }

    /** Looks at the whole row of a cut, and behind it. */
    void cut(String what, CoalWood x, int c, int whole, int... sizes) {
        check.due(what + ": AFTERNOONS", x.cut(c, -2), whole);
        check.due(what + ": LUMPS", x.cut(c, CoalWood.NONE), sizes.length);
        for (int i = 0; i < sizes.length; i++) {
            check.due(what + ": the " + i + "-th", x.cut(c, i), sizes[i]);
        }
        check.due(what + ": not so many", x.cut(c, sizes.length), -5);
        check.due(what + ": not so many", x.cut(c, Integer.MAX_VALUE), -5);
    }
}
