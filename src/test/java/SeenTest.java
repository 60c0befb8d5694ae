/** Promises 27 to 33: what was seen and struck, moods by it, what to ask, chance, otherwise. */
public final class SeenTest {
    private static final int NONE = ClapMill.NONE;
    private static final Due due = new Due();

    /** Behind minute 1 the speed is 5 less the difference of mood and 0, so moods are told by speeds. */
    private static final String SHOWN =
            "act a 3 3;act b 5 1;guest g 0 0;grain o 1 99 99;show a 0;law turn beside;law grit speed;";

    public static void main(String[] args) {
        seeing();
        striking();
        knowing();
        moods();
        asking();
        chance();
        tried();
        due.end();
    }

    private static void seeing() {
        ClapMill x = new ClapMill();
        due.is("see(1, 0)", x.see(1, 0, true), 0);
        due.is("see(60, 999)", x.see(60, 999, false), 1);
        due.is("see(0, 0)", x.see(0, 0, true), NONE);
        due.is("see(61, 0)", x.see(61, 0, true), NONE);
        due.is("see(1, -1)", x.see(1, -1, true), NONE);
        due.is("see(1, 1000)", x.see(1, 1000, true), NONE);
        due.is("two", x.count(13), 2);
        for (int i = 2; i < 24; i++) {
            due.is("see " + i, x.see(1, 1, true), i);
        }
        due.is("there are 24", x.see(1, 1, true), NONE);
        due.is("there are 24", x.strike(0), NONE);
        due.is("24", x.count(13), 24);
    }

    private static void striking() {
        ClapMill x = Due.mill(SHOWN);
        due.is("none seen", x.strike(0), NONE);
        // Moods 0, 1, .. give 5, 4, 3, 2, 1, 0 and hisses behind minute 1.
        x.see(1, 3, true);
        due.is("0, 1, 2", x.moods(0), 7);
        due.is("strike(-1)", x.strike(-1), NONE);
        due.is("strike(1)", x.strike(1), NONE);
        due.is("strike(0)", x.strike(0), 1);
        due.is("struck", x.moods(0), 1023);
        due.is("strike a strike", x.strike(1), 2);
        due.is("it counts again", x.moods(0), 7);
        due.is("strike that, too", x.strike(2), 3);
        due.is("struck again", x.moods(0), 1023);
        due.is("strike the first once more", x.strike(0), 4);
        due.is("strike the third", x.strike(3), 5);
        due.is("struck by the other one", x.moods(0), 1023);
        due.is("strike that", x.strike(4), 6);
        due.is("it counts", x.moods(0), 7);
        due.is("seven", x.count(13), 7);
    }

    private static void knowing() {
        ClapMill x = Due.mill(SHOWN);
        due.is("known(1)", x.known(1), false);
        due.is("known(-2)", x.known(-2), false);
        due.is("known(0)", x.known(0), true);
        due.is("by 0", x.count(14), 0);
        x.see(1, 3, true);
        x.see(1, 5, false);
        x.strike(0);
        due.is("by 0 still", x.count(14), 0);
        due.is("none known", x.moods(0), 1023);
        due.is("known(1)", x.known(1), true);
        due.is("the first", x.moods(0), 7);
        due.is("known(2)", x.known(2), true);
        due.is("two", x.moods(0), 6);
        due.is("known(3)", x.known(3), true);
        due.is("the first is struck", x.moods(0), 1022);
        due.is("known(4)", x.known(4), false);
        due.is("by 3 still", x.count(14), 3);
        x.see(1, 1, false);
        due.is("not by those to come", x.moods(0), 1022);
        due.is("known(-1)", x.known(-1), true);
        due.is("by all", x.count(14), 4);
        due.is("all", x.moods(0), 992);
        x.strike(3);
        due.is("also those to come", x.count(14), 5);
        due.is("also those to come", x.moods(0), 1022);
    }

    private static void moods() {
        ClapMill x = Due.mill(SHOWN);
        due.is("no such act", x.moods(2), NONE);
        due.is("no such act", x.moods(-1), NONE);
        due.is("nothing seen", x.moods(0), 1023);
        x.see(1, 2, true);
        x.see(1, 3, false);
        due.is("the mood told alone", x.moods(0), 8);
        due.is("of an act never on, as told", x.moods(1), 1023);
        x.see(2, 4, false);
        due.is("4 behind 2 minutes", x.moods(0), 0);
        due.is("none of any", x.moods(1), 0);
        ClapMill y = Due.mill(SHOWN);
        y.see(1, 2, true);
        y.stage(1);
        y.push(50);
        y.go(3);
        due.is("nothing done by call", y.moods(0), 15);
        ClapMill z = Due.mill(SHOWN + "cough 50;");
        z.see(60, 1, true);
        due.is("as it goes it is coughed", z.moods(0), 0);
        ClapMill w = Due.mill(SHOWN + "cough 49;");
        w.see(60, 1, true);
        due.is("as it goes it isn't", w.moods(0), 31);
        Due.tell(w, "act a 3 3;");
        w.see(60, 1, true);
        due.is("by the text of now", w.moods(0), 0);
    }

    private static void asking() {
        ClapMill x = Due.mill(SHOWN);
        // Behind minute 1: 5, 4, 3, 2, 1, and 0 by five moods; no later minute parts those.
        due.is("behind 1", x.ask(0, 0), 1);
        due.is("five are left", x.ask(0, 1), 5);
        due.is("of an act never on", x.ask(1, 0), 1);
        due.is("all are left", x.ask(1, 1), 10);
        x.see(1, 1, true);
        due.is("one is left", x.ask(0, 1), 1);
        x.see(1, 5, true);
        due.is("mood 0 alone", x.ask(0, 1), 1);
        x.see(1, 1, false);
        due.is("none: 1", x.ask(0, 0), 1);
        due.is("none: 0", x.ask(0, 1), 0);
        due.is("no such act", x.ask(2, 0), NONE);
        due.is("no such act", x.ask(-1, 0), NONE);
        due.is("no such what", x.ask(0, 2), NONE);
        due.is("no such what", x.ask(0, -1), NONE);
        // From minute 4 to 12: mood 1 grinds nine sacks, 2 eight, and so on, 9 one (in minute 12), 0 none.
        ClapMill y = Due.mill("act a 0 9;grain o 1 99 99;show a 4;law turn mood < minute - 2 and mood > 0;");
        due.is("behind minute 12 all part", y.ask(0, 0), 13);
        due.is("one is left", y.ask(0, 1), 1);
    }

    private static void chance() {
        String hall = "act a 4 9;guest g 4 0;grain o 1 99 99;show a 0;law turn beside;";
        ClapMill x = Due.mill(hall + "cough 51;");
        // Seed 1, a minute each: the numbers 38 58 13 15 51 27 10 19 12 86 modulo 100: coughed below 51.
        due.is("one minute each", x.chance(1, 1, 1), 3);
        due.is("0 sacks", x.chance(1, 1, 0), 10);
        due.is("999 sacks", x.chance(1, 99, 999), 0);
        due.is("the least seed", x.chance(0, 7, 4), drawn(0, 7, 4, 51));
        due.is("the highest seed", x.chance(Integer.MAX_VALUE, 1, 0), 10);
        due.is("seed -1", x.chance(-1, 1, 1), NONE);
        due.is("n 0", x.chance(1, 0, 1), NONE);
        due.is("n 100", x.chance(1, 100, 1), NONE);
        due.is("sacks -1", x.chance(1, 1, -1), NONE);
        due.is("sacks 1000", x.chance(1, 1, 1000), NONE);
        due.is("never coughed", Due.mill(hall).chance(1, 3, 3), 10);
        due.is("always coughed", Due.mill(hall + "cough 100;").chance(1, 3, 1), 0);
        due.is("one behind another", x.chance(3, 7, 4), drawn(3, 7, 4, 51));
        due.is("one behind another", x.chance(77, 9, 5), drawn(77, 9, 5, 51));
        x.go(4);
        due.is("from now, ground in all", x.chance(1, 1, x.count(8) + 1), 3);
    }

    private static int drawn(long seed, int n, int sacks, int cough) {
        long last = seed;
        int times = 0;
        for (int k = 0; k < 10; k++) {
            int ground = 0;
            for (int i = 0; i < n; i++) {
                last = (last * 1103515245L + 12345) % (1L << 31);
                ground += last / 65536 % 100 < cough ? 0 : 1;
            }
            times += ground >= sacks ? 1 : 0;
        }
        return times;
    }

    private static void tried() {
        String hall = "act a 4 4;act b 0 4;guest g 4 3;guest h 4 2;grain o 1 99 99;show a 0;show b 4;"
                + "law clap hunger + beside - 9*(mood = 0);law turn beside;law grit speed;";
        // Minutes 0 to 3: 3 + 5 claps, 8 sacks each. Minutes 4 to 7: -6, -9 (-13): one comes back each.
        ClapMill x = Due.mill(hall);
        due.is("as it goes", x.ahead(8, 0, 0), 28);
        due.is("never coughed", x.tried(0, 0, 8), 28);
        due.is("always coughed", x.tried(1, 0, 8), 0);
        due.is("g never claps", x.tried(2, 0, 4), 8);
        due.is("h never claps", x.tried(2, 1, 4), 12);
        due.is("nothing comes back", x.tried(3, 0, 8), 32);
        due.is("hunger 9", x.tried(4, 0, 1), 9);
        due.is("hunger 9: no hiss", x.tried(4, 0, 8), 36);
        due.is("0 minutes", x.tried(3, 0, 0), 0);
        due.is("i 1", x.tried(0, 1, 8), NONE);
        due.is("i -1", x.tried(4, -1, 8), NONE);
        due.is("no such guest", x.tried(2, 2, 8), NONE);
        due.is("no such guest", x.tried(2, -1, 8), NONE);
        due.is("no such what", x.tried(5, 0, 8), NONE);
        due.is("no such what", x.tried(-1, 0, 8), NONE);
        due.is("-1 minutes", x.tried(0, 0, -1), NONE);
        due.is("201 minutes", x.tried(0, 0, 201), NONE);
        due.is("200 minutes", x.tried(0, 0, 200), 28);
        due.is("it was only tried", x.ahead(8, 0, 0), 28);
        ClapMill y = Due.mill(hall + "cough 80;");
        due.is("as it goes", y.ahead(8, 0, 0), 0);
        due.is("never coughed", y.tried(0, 0, 8), 28);
        due.is("otherwise as it goes", y.tried(3, 0, 8), 0);
        x.go(1);
        due.is("in all then", x.tried(2, 0, 1), 10);
        ClapMill z = Due.mill("act a 1 9;guest g 1 0;guest h 1 0;grain o 1 99 99;show a 0;law clap 9 / (1 - beside);law turn beside;law grit beside;");
        // g claps 9, h -1 (9 / -8): 8; without g, h claps 9.
        due.is("beside 0 of one who doesn't clap", z.tried(2, 0, 1), 9);
        due.is("tried nothing", z.ahead(1, 0, 0), 8);
    }
}
