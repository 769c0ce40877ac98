/** Promise 6: rules, doings, time, and how a play ends. */
public final class RulesTest {
    public static void main(String[] args) {
        rules();
        time();
        endings();
        all();
        breaks();
        looks();
        carried();
        takeAndDrop();
        openAndClose();
        put();
        go();
        Bench.end();
    }

    private static void rules() {
        Bench bench = Bench.playing("room r \"R\" {} thing a \"A\" { in r; word a1, aa; } thing b \"B\" { in r; word bb; } "
                + "on take { say 1; } on take any { say 2; } on take a { say 3; if b in player { done; say 9; } say 4; } on take b { say 5; } "
                + "on take player { say 6; } on take { say 7; } verb tie tie two with; on tie a { say 1; } on tie any b { say 2; } on tie a any { say 3; } "
                + "on tie b a { say 4; } on tie player player { say 5; done; } verb odd odd alone; on odd { say noun, second; }");
        Bench.same("those that fit", "1 12347Taken.\n", bench.play("take aa"));
        Bench.same("another noun", "1 1257Taken.\n", bench.play("take bb"));
        Bench.same("done ends the others and the doing", "1 123", bench.play("take aa"));
        Bench.same("the player", "1 1267You have that.\n", bench.play("get me"));
        Bench.same("two nouns", "1 123Nothing happens.\n", bench.play("tie aa with bb"));
        Bench.same("the other way", "1 4Nothing happens.\n", bench.play("tie bb with aa"));
        Bench.same("the player twice", "1 5", bench.play("tie me with me"));
        Bench.same("no nouns", "1 00Nothing happens.\n", bench.play("odd"));
        bench = Bench.playing("room r \"R\" { exit up s; } room s \"S\" {} on go up { say noun, second, here; } on go { say 7; } on go down { say 8; done; } each { say noun; }");
        Bench.same("go", "1 5027S\n5", bench.play("u"));
        Bench.same("go down", "1 786", bench.play("go d"));
    }

    private static void time() {
        Bench bench = Bench.playing("room r \"R\" {} thing a \"A\" { in r; word aa; } var n = 0; "
                + "each { say \"(\", noun, second, \")\"; if n == 1 { done; } say 1; } each { n = n + 1; say 2; } on drop { done; }");
        Bench.same("all eachs", "1 Time passes.\n(00)12", bench.play("z"));
        Bench.same("done ends that one alone", "1 Taken.\n(30)2", bench.play("take aa"));
        Bench.same("turns", 2, bench.house.told(7));
        bench.play("take zz");
        Bench.same("no time", 2, bench.house.told(7));
        Bench.same("time behind done", "1 (30)12", bench.play("drop aa"));
        Bench.same("turns then", 3, bench.house.told(7));
    }

    private static void endings() {
        String story = "room r \"R\" {} var n = 0; verb a a alone; verb b b alone; verb c c alone; def f() { win; say 9; } on a { say 1; lose; say 2; } "
                + "on a { say 3; } on b { say f(); } on wait { n = 1; } each { say 4; if n { win; } } each { say 5; }";
        Bench bench = Bench.playing(story);
        Bench.same("lost", "3 1\n*** You have lost ***\n", bench.play("a"));
        Bench.same("ended", 2, bench.house.told(8));
        Bench.same("no time", 0, bench.house.told(7));
        Bench.same("over", "3 The story is over.\n", bench.play("look"));
        Bench.same("over without a term", "3 The story is over.\n", bench.play(""));
        Bench.same("the tape is empty then", 1, bench.house.feed('z', 1));
        Bench.same("sound", true, bench.house.sound());
        Bench.same("undone", true, bench.house.undo());
        Bench.same("not ended", 0, bench.house.told(8));
        bench.house.enter();
        Bench.same("in an each", "Time passes.\n4\n*** You have won ***\n", bench.out());
        Bench.same("time went", 1, bench.house.told(7));
        Bench.same("won", 1, bench.house.told(8));
        bench.house.begin(1);
        Bench.same("in a def", "3 \n*** You have won ***\n", bench.play("b"));
    }

    private static void all() {
        String story = "room r \"R\" {} room s \"S\" {} thing a \"A\" { in r; word aa; } thing b \"B\" { in r; word bb; } thing c \"C\" { in r; word cc; fixed; } "
                + "thing d \"D\" { in r; word dd; hidden; } thing e \"E\" { in r; word ee; } verb k k alone; verb m m alone; var mode = 0; each { say noun; } ";
        Bench bench = Bench.playing(story);
        Bench.same("take all", "1 E: Taken.\nB: Taken.\nA: Taken.\n4", bench.play("take all"));
        Bench.same("one time", 1, bench.house.told(7));
        Bench.same("the latest is it", 4, bench.house.told(9));
        Bench.same("none", "0 There is nothing to do.\n", bench.play("get all"));
        Bench.same("again is still the latest", "0 There is nothing to do.\n", bench.play("g"));
        Bench.same("drop all", "1 A: Dropped.\nB: Dropped.\nE: Dropped.\n8", bench.play("drop the all"));
        Bench.same("one undo each", 2, bench.house.told(10));
        bench = Bench.playing(story + "on k { set e fixed; }");
        bench.playAll("take all", "drop all", "k");
        Bench.same("not what was put down before", "1 B: Taken.\nA: Taken.\n4", bench.play("take all"));
        bench = Bench.playing(story + "on take e { move b to s; } on take a { say \"no^\"; done; }");
        Bench.same("one that is gone", "1 E: Taken.\nA: no\n4", bench.play("take all"));
        bench = Bench.playing(story + "on take e { set b fixed; move player to s; }");
        Bench.same("rules change much", "1 E: Taken.\nB: That is fixed.\nA: Taken.\n4", bench.play("take all"));
        bench = Bench.playing(story + "on take b { win; }");
        Bench.same("the others are not done", "3 E: Taken.\nB: \n*** You have won ***\n", bench.play("take all"));
        Bench.same("the latest done is it", 5, bench.house.told(9));
        bench = Bench.playing(story + "on take a { say 1 / 0; }");
        Bench.same("all of it breaks", "2 [break 1]\n", bench.play("take all"));
        Bench.same("nothing was taken", 2, bench.house.holder(8));
        Bench.same("nothing is it", 0, bench.house.told(9));
    }

    private static void breaks() {
        Bench bench = Bench.playing("room r \"R\" {} thing a \"A\" { in r; word aa; } thing b \"B\" { in r; word bb; } array t[1]; var n = 0; "
                + "on take b { t[0] = random 9; move a to b; set r light; n = 5; say 1 / 0; } each { if n == 1 { say holder 0; } n = 0; }");
        bench.play("x aa");
        int seed = bench.house.told(11);
        Bench.same("breaks", "2 [break 1]\n", bench.play("take bb"));
        Bench.same("the seed", seed, bench.house.told(11));
        Bench.same("the cell", 0, bench.house.cell(0, 0));
        Bench.same("the var", 0, bench.house.value(0));
        Bench.same("the thing", 2, bench.house.holder(3));
        Bench.same("the attribute", false, bench.house.has(2, 3));
        Bench.same("turns", 1, bench.house.told(7));
        Bench.same("it", 3, bench.house.told(9));
        Bench.same("undo", 1, bench.house.told(10));
        Bench.same("again", "1 You see nothing special.\n", bench.play("g"));
        Bench.same("sound", true, bench.house.sound());
        bench = Bench.playing("room r \"R\" {} thing a \"A\" { in r; word aa; } each { say holder 0; }");
        Bench.same("in an each", "2 [break 2]\n", bench.play("take aa"));
        Bench.same("nothing taken", 2, bench.house.holder(3));
        Bench.same("nothing to repeat", "0 There is nothing to repeat.\n", bench.play("g"));
    }

    private static void looks() {
        Bench bench = Bench.playing("thing a \"an a\" { in r; container; open; } thing h \"H\" { in r; hidden; } thing b \"a b\" { in r; supporter; container; } room r \"The^Room\" { text \"First.\"; text \"So.^So.\"; } "
                + "thing c \"a c\" { in a; } thing d \"a d\" { in a; hidden; } thing e \"an e\" { in b; container; open; } thing f \"an f\" { in e; } thing k \"a k\" { in r; container; } thing m \"an m\" { in k; }");
        String due = "The\nRoom\nSo.\nSo.\nThere is a k here.\nThere is a b here.\nOn a b there is an e.\nThere is an a here.\nIn an a there is a c.\n";
        Bench.same("begin looks", due, bench.out());
        Bench.same("look", "1 " + due, bench.play("l"));
        bench = Bench.playing("room r \"R\" { text \"\"; }");
        Bench.same("an empty text", "R\n\n", bench.out());
        bench = Bench.playing("room r \"R\" {} on look { say \"rule^\"; } room q \"Q\" {}");
        Bench.same("begin without rules", "R\n", bench.out());
        Bench.same("look with rules", "1 rule\nR\n", bench.play("look"));
    }

    private static void carried() {
        Bench bench = Bench.playing("room r \"R\" {} thing a \"an a\" { in player; text \"It is^an a.\"; word aa; } thing b \"B\" { in player; hidden; } thing c \"C\" { in player; word cc; }");
        Bench.same("inventory", "1 You carry:\n  C\n  an a\n", bench.play("i"));
        Bench.same("a text", "1 It is\nan a.\n", bench.play("examine aa"));
        Bench.same("no text", "1 You see nothing special.\n", bench.play("x cc"));
        bench.play("drop all");
        Bench.same("only what is hidden", "1 You carry nothing.\n", bench.play("i"));
        Bench.same("wait", "1 Time passes.\n", bench.play("wait"));
    }

    private static void takeAndDrop() {
        Bench bench = Bench.playing("room r \"R\" {} thing a \"A\" { in r; word aa; container; open; } thing b \"B\" { in a; word bb; } thing c \"C\" { in r; word cc; fixed; }");
        Bench.same("fixed", "1 That is fixed.\n", bench.play("take cc"));
        Bench.same("the player", "1 You have that.\n", bench.play("take me"));
        Bench.same("drop the player", "1 You do not have that.\n", bench.play("drop me"));
        Bench.same("taken", "1 Taken.\n", bench.play("take aa"));
        Bench.same("had", "1 You have that.\n", bench.play("take aa"));
        Bench.same("not straight away", "1 You do not have that.\n", bench.play("drop bb"));
        Bench.same("taken out of it", "1 Taken.\n", bench.play("take bb"));
        Bench.same("before all that is there", 4, bench.house.first(1, false));
        Bench.same("dropped", "1 Dropped.\n", bench.play("drop aa"));
        Bench.same("before all in the room", 3, bench.house.first(2, false));
        Bench.same("not had", "1 You do not have that.\n", bench.play("drop aa"));
    }

    private static void openAndClose() {
        Bench bench = Bench.playing("room r \"R\" {} thing a \"A\" { in r; word aa; container; } thing b \"B\" { in r; word bb; open; }");
        Bench.same("close closed", "1 That is closed.\n", bench.play("close aa"));
        Bench.same("open", "1 Opened.\n", bench.play("open aa"));
        Bench.same("is open", true, bench.house.has(3, 4));
        Bench.same("open open", "1 That is open.\n", bench.play("open aa"));
        Bench.same("close", "1 Closed.\n", bench.play("close aa"));
        Bench.same("is closed", false, bench.house.has(3, 4));
        Bench.same("no container", "1 You can not open that.\n", bench.play("open bb"));
        Bench.same("nor closed", "1 You can not close that.\n", bench.play("close bb"));
    }

    private static void put() {
        Bench bench = Bench.playing("room r \"R\" {} thing a \"A\" { in player; word aa; container; supporter; open; } thing b \"B\" { in a; word bb; container; open; supporter; } "
                + "thing c \"C\" { in player; word cc; } thing d \"D\" { in r; word dd; container; } thing e \"E\" { in r; word ee; supporter; } "
                + "verb bag bag alone; on bag { set player container; set player open; }");
        Bench.same("not had", "1 You do not have that.\n", bench.play("put bb in aa"));
        Bench.same("not had, on", "1 You do not have that.\n", bench.play("put dd on ee"));
        Bench.same("into itself", "1 You can not do that.\n", bench.play("put aa in aa"));
        Bench.same("into what is in it", "1 You can not do that.\n", bench.play("put aa in bb"));
        Bench.same("onto what is in it", "1 You can not do that.\n", bench.play("put aa on bb"));
        Bench.same("no container", "1 You can not do that.\n", bench.play("put cc in ee"));
        Bench.same("no supporter", "1 You can not do that.\n", bench.play("put cc on dd"));
        Bench.same("closed", "1 That is closed.\n", bench.play("put cc in dd"));
        Bench.same("in", "1 Done.\n", bench.play("put cc in bb"));
        Bench.same("it is there", 4, bench.house.holder(5));
        bench.play("take cc");
        Bench.same("on", "1 Done.\n", bench.play("put cc on ee"));
        Bench.same("there, too", 7, bench.house.holder(5));
        Bench.same("in the player", "1 You can not do that.\n", bench.play("put aa in me"));
        bench.play("bag");
        Bench.same("in the player then", "1 Done.\n", bench.play("put aa in me"));
    }

    private static void go() {
        Bench bench = Bench.playing("room r \"R\" { exit up s; exit up t; exit down r; } thing a \"A\" { in r; } room s \"S\" {} room t \"T\" { dark; exit down r; } on look { say 1; }");
        Bench.same("the last exit counts", "1 It is dark.\n", bench.play("up"));
        Bench.same("no exit", "1 You can not go there.\n", bench.play("up"));
        Bench.same("back", "1 R\nThere is A here.\n", bench.play("down"));
        Bench.same("the player comes first", 1, bench.house.first(2, false));
        bench.play("d");
        Bench.same("to the same room", 2, bench.house.holder(1));
        bench = Bench.playing("room r \"R\" { exit up r; } thing a \"A\" { in r; word aa; } thing b \"B\" { in r; word bb; } thing c \"C\" { in r; word cc; }");
        bench.playAll("up", "take aa");
        Bench.same("taken from behind the others", "1 5 4 0 3", bench.house.first(2, false) + " " + bench.house.first(1, true) + " "
                + bench.house.first(5, true) + " " + bench.house.first(4, true) + " " + bench.house.first(1, false));
    }
}
