/** Promise 6: how a LINE is understood, and what is answered when it is not. */
public final class LinesTest {
    private static final String STORY = "room hall \"Hall\" { exit north cave; } room cave \"Cave\" { dark; exit south hall; } "
            + "thing lamp \"a lamp\" { in hall; word lamp, brass, verylongword; } thing box \"a box\" { in hall; word box, red; container; open; } "
            + "thing coin \"a coin\" { in box; word coin, red, all2; } thing desk \"a desk\" { in hall; word desk, it, the; supporter; fixed; } "
            + "thing pen \"a pen\" { in desk; word pen; } thing ghost \"a ghost\" { in hall; word ghost; hidden; } "
            + "thing in2 \"a figure\" { in hall; word figure2; } "
            + "verb hop hop, n, take alone; verb tie tie, hop two verylongwore; verb lift lift, hop, look one; verb walk go, stroll one; "
            + "on tie { say \"[\", noun, \" \", second, \"]^\"; done; } on lift { say \"<\", noun, \">^\"; done; } ";

    public static void main(String[] args) {
        words();
        again();
        directions();
        forms();
        nouns();
        scope();
        cuts();
        Bench.end();
    }

    private static void line(String line, String due) {
        Bench bench = Bench.playing(STORY);
        Bench.same("[" + line + "]", due, bench.play(line));
        if (due.startsWith("0")) {
            Bench.same("no time for " + line, 0, bench.house.told(7));
            Bench.same("no undo of " + line, 0, bench.house.told(10));
        }
    }

    private static void words() {
        line("", "0 I beg your pardon?\n");
        line("  12 ?! \n", "0 I beg your pardon?\n");
        line("Z", "1 Time passes.\n");
        line("..z..", "1 Time passes.\n");
        line("\nwait\n", "1 Time passes.\n");
        line("I", "1 You carry nothing.\n");
        line("inventory", "1 You carry nothing.\n");
        line("inventorying", "1 You carry nothing.\n");
        line("dance", "0 I do not know how to do that.\n");
        line("dance lamp", "0 I do not know how to do that.\n");
        line("z z", "0 I did not get that.\n");
        line("take", "1 Nothing happens.\n");
        line("drop", "0 I did not get that.\n");
        line("putin lamp in box", "0 I do not know how to do that.\n");
    }

    private static void again() {
        line("again", "0 There is nothing to repeat.\n");
        line("g", "0 There is nothing to repeat.\n");
        line("again now", "0 I do not know how to do that.\n");
        Bench bench = Bench.playing(STORY);
        bench.play("dance");
        Bench.same("what was no command", "0 There is nothing to repeat.\n", bench.play("g"));
        bench.play("Take LAMP");
        Bench.same("again", "1 You have that.\n", bench.play("again"));
        bench.play("dance");
        Bench.same("the latest command", "1 You have that.\n", bench.play("G!"));
        bench.play("drop it");
        Bench.same("it is now", "1 You do not have that.\n", bench.play("g"));
        bench.play("x red");
        Bench.same("refused again", "1 You do not have that.\n", bench.play("g"));
        bench.play("take lamp");
        bench.play("drop all");
        Bench.same("nothing to do again", "0 There is nothing to do.\n", bench.play("g"));
    }

    private static void directions() {
        line("north", "1 It is dark.\n");
        line("n", "1 It is dark.\n");
        line("go north", "1 It is dark.\n");
        line("GO N", "1 It is dark.\n");
        for (String way : new String[] {"south", "s", "east", "e", "west", "w", "up", "u", "down", "d"}) {
            line(way, "1 You can not go there.\n");
        }
        line("go", "0 Where do you want to go?\n");
        line("go lamp", "0 Where do you want to go?\n");
        line("go north now", "0 Where do you want to go?\n");
        line("north now", "0 I do not know how to do that.\n");
        line("n n", "0 I did not get that.\n");
        line("stroll lamp", "1 Nothing happens.\n");
    }

    private static void forms() {
        line("hop", "1 Nothing happens.\n");
        line("hop lamp", "1 <4>\n");
        line("hop lamp verylongwo", "1 <4>\n");
        line("hop lamp verylongwordz desk", "1 [4 7]\n");
        line("tie lamp", "0 I did not get that.\n");
        line("tie lamp verylongw", "0 I did not get that.\n");
        line("tie verylongw desk", "0 I did not get that.\n");
        line("tie verylongw verylongw verylongw", "1 [4 4]\n");
        line("look lamp", "1 <4>\n");
        line("put lamp in box", "1 You do not have that.\n");
        line("put lamp on desk", "1 You do not have that.\n");
        line("put lamp under desk", "0 I did not get that.\n");
        line("take lamp", "1 Taken.\n");
        line("get lamp", "1 Taken.\n");
    }

    private static void nouns() {
        line("x the lamp", "1 You see nothing special.\n");
        line("x a lamp", "1 You see nothing special.\n");
        line("x an brass lamp", "1 You see nothing special.\n");
        line("x lamp brass lamp", "1 You see nothing special.\n");
        line("x the the lamp", "0 You see no such thing.\n");
        line("x the the desk", "1 You see nothing special.\n");
        line("x the", "1 You see nothing special.\n");
        line("x a", "0 You see no such thing.\n");
        line("x red", "0 Which one do you mean?\n");
        line("x red box", "1 You see nothing special.\n");
        line("x red lamp", "0 You see no such thing.\n");
        line("x ghost", "0 You see no such thing.\n");
        line("x figure", "0 You see no such thing.\n");
        line("x all", "0 You see no such thing.\n");
        line("x hall", "0 You see no such thing.\n");
        line("x it", "0 You see no such thing.\n");
        line("x desk it", "1 You see nothing special.\n");
        line("take me", "1 You have that.\n");
        line("tie red verylongw zzz", "0 Which one do you mean?\n");
        line("tie zzz verylongw red", "0 You see no such thing.\n");
        line("tie lamp verylongw red", "0 Which one do you mean?\n");
        line("put all in box", "0 You see no such thing.\n");
        line("take the all", "1 a figure: Taken.\na box: Taken.\na lamp: Taken.\n");
        line("take all lamp", "0 You see no such thing.\n");
        Bench bench = Bench.playing(STORY);
        bench.play("tie pen verylongw lamp");
        Bench.same("the first of two is it", 8, bench.house.told(9));
        Bench.same("it", "1 <8>\n", bench.play("lift the it"));
        bench.play("z");
        Bench.same("still it", 8, bench.house.told(9));
        bench.play("n");
        Bench.same("a direction is not it", 8, bench.house.told(9));
        Bench.same("it out of scope", "0 You see no such thing.\n", bench.play("x it"));
        bench.play("x me");
        Bench.same("the player is it", 1, bench.house.told(9));
    }

    private static void scope() {
        String light = "room r \"R\" { dark; } thing box \"B\" { in player; word box; container; } thing coin \"C\" { in box; word coin; } "
                + "thing tray \"T\" { in r; word tray; supporter; } thing cup \"U\" { in tray; word cup; container; } thing tea \"E\" { in cup; word tea; } "
                + "thing lamp \"L\" { in tray; word lamp; } verb on1 light2, lit one; verb shine shine alone; verb dim dim alone; verb hide hide alone; "
                + "on shine { set lamp light; } on dim { clear lamp light; } on hide { set tray hidden; } ";
        Bench bench = Bench.playing(light);
        Bench.same("dark", "It is dark.\n", bench.out());
        Bench.same("the player in the dark", "1 You see nothing special.\n", bench.play("x me"));
        Bench.same("what the player has", "1 You see nothing special.\n", bench.play("x box"));
        Bench.same("in a closed box", "0 You see no such thing.\n", bench.play("x coin"));
        bench.play("open box");
        Bench.same("in an open box", "1 You see nothing special.\n", bench.play("x coin"));
        Bench.same("in the dark room", "0 You see no such thing.\n", bench.play("x tray"));
        Bench.same("take all in the dark", "0 There is nothing to do.\n", bench.play("take all"));
        bench.play("shine");
        Bench.same("by a light on a tray", "1 R\nThere is T here.\nOn T there is L.\nOn T there is U.\n", bench.play("look"));
        Bench.same("on a tray", "1 You see nothing special.\n", bench.play("x cup"));
        Bench.same("in a closed cup", "0 You see no such thing.\n", bench.play("x tea"));
        bench.play("hide");
        Bench.same("a light in what is hidden", "1 It is dark.\n", bench.play("look"));
        Bench.same("drop all in the dark", "1 B: Dropped.\n", bench.play("drop all"));
        Bench.same("gone with it", "0 You see no such thing.\n", bench.play("x box"));
        bench = Bench.playing("room r \"R\" { dark; } verb shine shine alone; verb hide hide alone; on shine { set player light; } on hide { set player hidden; }");
        bench.play("shine");
        Bench.same("the player's own light", "1 R\n", bench.play("look"));
        bench.play("hide");
        Bench.same("a hidden player's light", "1 It is dark.\n", bench.play("look"));
        bench = Bench.playing("room r \"R\" { dark; } room s \"S\" {} thing lamp \"L\" { in s; light; } verb shine shine alone; on shine { set r light; }");
        bench.play("shine");
        Bench.same("a room is not seen", "1 It is dark.\n", bench.play("look"));
    }

    private static void cuts() {
        line("x " + "lamp ".repeat(11) + "dance", "1 You see nothing special.\n");
        line("x " + "lamp ".repeat(10) + "dance", "0 You see no such thing.\n");
        line(" ".repeat(119) + "z dance", "1 Time passes.\n");
        line(" ".repeat(120) + "z", "0 I beg your pardon?\n");
        line(" ".repeat(114) + "x lampdance", "1 You see nothing special.\n");
        line("x verylongwordx", "1 You see nothing special.\n");
        line("x verylongw", "1 You see nothing special.\n");
        line("x verylong", "0 You see no such thing.\n");
        Bench bench = Bench.playing(STORY);
        bench.play("z" + " ".repeat(200));
        Bench.same("the tape is empty then", 1, bench.house.feed('z', 1));
    }
}
