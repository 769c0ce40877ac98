/** Promises 12 to 17: holder, first, has, value, cell, told. */
public final class ThereIsTest {
    private static final int[] ODD = {Integer.MIN_VALUE, -1, 0, 7, 121, Integer.MAX_VALUE};

    public static void main(String[] args) {
        Bench bench = Bench.playing("room r \"R\" { dark; } thing a \"A\" { in r; word aa; container; fixed; hidden; light; open; supporter; } "
                + "thing b \"B\" { in a; } thing c \"C\" { in a; } thing d \"D\" {} "
                + "var x = 4; var y = -5; array s[2]; array t[3]; verb v v alone; def f() {} on look {} on v { s[1] = 8; t[0] = -9; x = 6; win; } each {}");
        StoryHouse house = bench.house;
        tree(house);
        attributes(house);
        bench.play("v");
        numbers(house);
        counts(house);
        unplayed();
        Bench.end();
    }

    private static void tree(StoryHouse house) {
        Bench.same("holders", "2 0 2 3 3 0", house.holder(1) + " " + house.holder(2) + " " + house.holder(3) + " " + house.holder(4)
                + " " + house.holder(5) + " " + house.holder(6));
        Bench.same("firsts", "0 3 5 0 0 0", house.first(1, false) + " " + house.first(2, false) + " " + house.first(3, false) + " "
                + house.first(4, false) + " " + house.first(5, false) + " " + house.first(6, false));
        Bench.same("nexts", "0 0 1 0 4 0", house.first(1, true) + " " + house.first(2, true) + " " + house.first(3, true) + " "
                + house.first(4, true) + " " + house.first(5, true) + " " + house.first(6, true));
        for (int i : ODD) {
            Bench.refuses("holder " + i, IndexOutOfBoundsException.class, () -> house.holder(i));
            Bench.refuses("first " + i, IndexOutOfBoundsException.class, () -> house.first(i, false));
            Bench.refuses("next " + i, IndexOutOfBoundsException.class, () -> house.first(i, true));
            Bench.refuses("has " + i, IndexOutOfBoundsException.class, () -> house.has(i, 0));
            Bench.refuses("has with both wrong " + i, IndexOutOfBoundsException.class, () -> house.has(i, 7));
        }
    }

    private static void attributes(StoryHouse house) {
        for (int i = 0; i < 7; i++) {
            Bench.same("attribute " + i, i != 6, house.has(3, i));
            Bench.same("of the room " + i, i == 6, house.has(2, i));
            Bench.same("of the player " + i, false, house.has(1, i));
        }
        for (int i : new int[] {-1, 7, Integer.MIN_VALUE, Integer.MAX_VALUE}) {
            Bench.refuses("attribute " + i, IllegalArgumentException.class, () -> house.has(1, i));
        }
    }

    private static void numbers(StoryHouse house) {
        Bench.same("values", "6 -5", house.value(0) + " " + house.value(1));
        Bench.same("cells", "0 8 -9 0 0", house.cell(0, 0) + " " + house.cell(0, 1) + " " + house.cell(1, 0) + " " + house.cell(1, 1)
                + " " + house.cell(1, 2));
        for (int i : new int[] {-1, 2, 3, 100, Integer.MIN_VALUE, Integer.MAX_VALUE}) {
            Bench.refuses("value " + i, IndexOutOfBoundsException.class, () -> house.value(i));
            Bench.refuses("array " + i, IndexOutOfBoundsException.class, () -> house.cell(i, 0));
            Bench.refuses("cell " + i, IndexOutOfBoundsException.class, () -> house.cell(0, i));
        }
        Bench.refuses("cell 1, 3", IndexOutOfBoundsException.class, () -> house.cell(1, 3));
        Bench.refuses("cell 1, -1", IndexOutOfBoundsException.class, () -> house.cell(1, -1));
    }

    private static void counts(StoryHouse house) {
        int[] due = {6, 12, 2, 2, 1, 2, 1, 0, 1, 0, 1, 1};
        for (int what = 0; what < 12; what++) {
            Bench.same("told " + what, due[what], house.told(what));
        }
        for (int what : new int[] {-1, 12, Integer.MIN_VALUE, Integer.MAX_VALUE}) {
            Bench.refuses("told " + what, IllegalArgumentException.class, () -> house.told(what));
        }
    }

    private static void unplayed() {
        Bench bench = new Bench();
        bench.build("room r \"R\" {} var x = 1; array a[1];");
        StoryHouse house = bench.house;
        Bench.refuses("holder", IllegalStateException.class, () -> house.holder(1));
        Bench.refuses("first", IllegalStateException.class, () -> house.first(2, true));
        Bench.refuses("has", IllegalStateException.class, () -> house.has(1, 6));
        Bench.refuses("has another", IllegalArgumentException.class, () -> house.has(1, 7));
        Bench.refuses("value", IllegalStateException.class, () -> house.value(0));
        Bench.refuses("no value", IndexOutOfBoundsException.class, () -> house.value(1));
        Bench.refuses("cell", IllegalStateException.class, () -> house.cell(0, 0));
        Bench.refuses("no cell", IndexOutOfBoundsException.class, () -> house.cell(0, 1));
        Bench.refuses("no object", IndexOutOfBoundsException.class, () -> house.holder(3));
        Bench.same("objects", 2, house.told(0));
        house.begin(77);
        bench.play("z");
        bench.build("room r \"R\" {}");
        for (int what = 7; what < 12; what++) {
            Bench.same("unplayed " + what, 0, house.told(what));
        }
    }
}
