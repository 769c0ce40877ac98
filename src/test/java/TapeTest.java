/** Promises 1 and 2: a new object, and feed. */
public final class TapeTest {
    public static void main(String[] args) {
        newObject();
        feeding();
        wrongFeeding();
        fullTape();
        Bench.end();
    }

    private static void newObject() {
        StoryHouse house = new StoryHouse();
        Bench.same("NONE", -1, StoryHouse.NONE);
        Bench.same("size", 0, house.size());
        Bench.same("place", StoryHouse.NONE, house.place());
        for (int what = 0; what < 12; what++) {
            Bench.same("told " + what, 0, house.told(what));
        }
        Bench.same("sound", true, house.sound());
        Bench.refuses("begin", IllegalStateException.class, () -> house.begin(1));
        Bench.refuses("enter", IllegalStateException.class, house::enter);
        Bench.refuses("undo", IllegalStateException.class, house::undo);
        Bench.refuses("save", IllegalStateException.class, () -> house.save(0));
        Bench.refuses("restore", IllegalStateException.class, () -> house.restore(0));
        Bench.refuses("out", IndexOutOfBoundsException.class, () -> house.out(0));
        Bench.refuses("holder", IndexOutOfBoundsException.class, () -> house.holder(1));
    }

    private static void feeding() {
        StoryHouse house = new StoryHouse();
        Bench.same("one byte", 1, house.feed('r', 1));
        Bench.same("all eight", 9, house.feed(0x7e20202020200a6fL, 8));
        Bench.same("only n count", 10, house.feed(0xffffffffffffff6fL, 1));
        Bench.same("the lowest first", -2, new Bench().feed("room").house.build());
        Bench bench = new Bench();
        bench.house.feed('r' | 'o' << 8 | 'o' << 16 | 'm' << 24, 4);
        bench.feed(" q\"Q\"{}");
        Bench.same("what was fed", 2, bench.house.build());
        Bench.same("the tape is empty then", 1, bench.house.feed('a', 1));
    }

    private static void wrongFeeding() {
        StoryHouse house = new StoryHouse();
        for (int n : new int[] {0, -1, 9, Integer.MIN_VALUE, Integer.MAX_VALUE}) {
            Bench.refuses("n " + n, IllegalArgumentException.class, () -> house.feed('a', n));
        }
        for (int c : new int[] {0, 9, 11, 13, 31, 127, 128, 255}) {
            Bench.refuses("byte " + c, IllegalArgumentException.class, () -> house.feed('a' | (long) c << 8, 2));
        }
        Bench.refuses("the eighth byte", IllegalArgumentException.class, () -> house.feed(0x8061616161616161L, 8));
        Bench.same("nothing came of it", 1, house.feed(10, 1));
        Bench.same("32 and 126", 3, house.feed(32 | 126 << 8, 2));
    }

    private static void fullTape() {
        StoryHouse house = new StoryHouse();
        for (int i = 0; i < 1999; i++) {
            house.feed(0x2020202020202020L, 8);
        }
        Bench.same("nearly full", 15993, house.feed(32, 1));
        Bench.refuses("eight more", IllegalStateException.class, () -> house.feed(0x2020202020202020L, 8));
        Bench.refuses("a wrong byte first", IllegalArgumentException.class, () -> house.feed(0, 8));
        Bench.same("full", 16000, house.feed(0x20202020202020L, 7));
        Bench.refuses("one more", IllegalStateException.class, () -> house.feed(32, 1));
        Bench.same("a source of blanks", -6, house.build());
        Bench.same("its end", 16000, house.place());
        Bench.same("empty again", 1, house.feed(32, 1));
    }
}
