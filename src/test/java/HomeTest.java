/** Promises 16 to 24: who should be home, what each saves, people who are out. */
public final class HomeTest {
    public static void main(String[] args) {
        best();
        change();
        cooks();
        appease();
        pray();
        values();
        shares();
        out();
        noHouses();
        nothingIsChanged();
        wrongNights();
        Check.finish();
    }

    private static void best() {
        FireLeave x = Check.city("deaf 9;rude 9;cook 9;deaf 9;rude 9;fire 0 20 9;");
        for (int n = 0; n <= 20; n++) {
            Check.due("best(" + n + ", 0)", x.best(n, 0), 0);
            for (int h = 0; h < 5; h++) {
                Check.due("best(" + n + ", " + (10 + h) + ")", x.best(n, 10 + h), 0);
            }
        }
        Check.due("best(3, 15)", x.best(3, 15), FireLeave.BAD);
        Check.due("best(3, 9)", x.best(3, 9), FireLeave.BAD);
        Check.due("best(3, 1)", x.best(3, 1), FireLeave.BAD);
        Check.due("best(3, -1)", x.best(3, -1), FireLeave.BAD);
        Check.due("best(3, MIN)", x.best(3, Integer.MIN_VALUE), FireLeave.BAD);
    }

    private static void change() {
        FireLeave deaf = Check.city("deaf 9;cook 3;");
        Check.due("deaf: change(1, 0)", deaf.change(1, 0), 0);
        Check.due("deaf: change(1, 1)", deaf.change(1, 1), 0);
        Check.due("deaf: change(0, 0)", deaf.change(0, 0), FireLeave.NONE);
        FireLeave two = Check.city("polite 9;deaf 9;rude 9;fire 1 5 3;");
        Check.due("two: change(2, 0)", two.change(2, 0), 10);
        Check.due("two: change(2, 1)", two.change(2, 1), 4);
        FireLeave worse = Check.city("deaf 9;polite 9;deaf 9;fire 2 6 0;");
        Check.due("worse: change(1, 0)", worse.change(1, 0), 20);
        Check.due("worse: change(2, 0), what is spared burns next door", worse.change(2, 0), FireLeave.NONE);
        FireLeave alike = Check.city("deaf 2;polite 9;deaf 9;fire 2 6 0;");
        Check.due("alike: change(2, 0), polite and rude", alike.change(2, 0), 20);
        Check.due("alike: change(2, 1)", alike.change(2, 1), 2);
        FireLeave polite = Check.city("polite 9;polite 5;");
        Check.due("polite: change(20, 0)", polite.change(20, 0), FireLeave.NONE);
        Check.due("polite: change(20, 1)", polite.change(20, 1), FireLeave.NONE);
        Check.due("polite: change(20, 2)", polite.change(20, 2), FireLeave.BAD);
        Check.due("polite: change(20, -1)", polite.change(20, -1), FireLeave.BAD);
    }

    private static void cooks() {
        FireLeave x = Check.city("polite 9;rude 9;deaf 9;cook 9;rude 0;fire 0 2 1;");
        Check.due("cooks(1, 0)", x.cooks(1, 0), 0);
        Check.due("cooks(1, 1)", x.cooks(1, 1), 0);
        Check.due("cooks(2, 0)", x.cooks(2, 0), 1);
        Check.due("cooks(2, 1)", x.cooks(2, 1), 2);
        Check.due("cooks(3, 0)", x.cooks(3, 0), 2);
        Check.due("cooks(3, 1)", x.cooks(3, 1), 3);
        Check.due("cooks(5, 0)", x.cooks(5, 0), 3);
        Check.due("cooks(5, 1)", x.cooks(5, 1), 1 + 2 + 16);
        Check.due("cooks(5, 2)", x.cooks(5, 2), FireLeave.BAD);
        FireLeave several = Check.city("deaf 9;cook 9;fire 1 1 0;");
        Check.due("several: cooks(1, 0)", several.cooks(1, 0), 0);
        Check.due("several: cooks(2, 1), the hunger is gone", several.cooks(2, 1), 0);
        FireLeave first = Check.city("polite 9;polite 9;deaf 9;fire 0 0 0;");
        Check.due("first: cooks(3, 0)", first.cooks(3, 0), 1);
        Check.due("first: cooks(3, 1), none but him", first.cooks(3, 1), 2);
    }

    private static void appease() {
        FireLeave x = Check.city("polite 9;deaf 9;fire 1 4 0;");
        Check.due("appease(1, 0)", x.appease(1, 0), 0);
        Check.due("appease(1, 1)", x.appease(1, 1), 4);
        Check.due("appease(0, 20)", x.appease(0, 20), 0);
        Check.due("appease(1, 3)", x.appease(1, 3), 9);
        x.alter(1, 1, 50);
        Check.due("appease(1, 3), too rich", x.appease(1, 3), FireLeave.NONE);
        x.set(2, 20);
        Check.due("appease(1, 1)", x.appease(1, 1), 20);
        x.alter(1, 1, 19);
        Check.due("appease(1, 1), all it has", x.appease(1, 1), 19);
        Check.due("appease(2, 1)", x.appease(2, 1), FireLeave.BAD);
        Check.due("appease(-1, 1)", x.appease(-1, 1), FireLeave.BAD);
        FireLeave cook = Check.city("cook 9;deaf 9;");
        Check.due("what a cook gives is not burnt", cook.appease(0, 20), 0);
        FireLeave other = Check.city("deaf 9;polite 9;");
        Check.due("what others lose is not asked", other.appease(1, 20), 0);
    }

    private static void pray() {
        FireLeave x = Check.city("deaf 9;polite 9;fire 0 2 0;");
        Check.due("pray(0)", x.pray(0), 0);
        Check.due("pray(1)", x.pray(1), 1);
        Check.due("pray(2), it burns a night later", x.pray(2), 0);
        x.rain(0, true);
        Check.due("pray(1), it rains", x.pray(1), 0);
        Check.due("pray(2)", x.pray(2), 2);
        x.go(6);
        x.set(1, 0);
        x.set(2, 3);
        Check.due("pray(1), night 6", x.pray(1), 64);
    }

    private static void values() {
        FireLeave x = Check.city("deaf 9;polite 9;rude 9;fire 0 4 3;");
        Check.due("value(0, 3)", x.value(0, 3), 1000);
        Check.due("value(1, 1)", x.value(1, 1), 1003);
        Check.due("value(2, 2), a cook more costs", x.value(2, 2), 999);
        Check.due("value(7, 3)", x.value(7, 3), 1000 + 4 + 4 - 3);
        Check.due("value(8, 3)", x.value(8, 3), FireLeave.BAD);
        Check.due("value(-1, 3)", x.value(-1, 3), FireLeave.BAD);
        Check.due("value(0, 0)", x.value(0, 0), 1000);
    }

    private static void shares() {
        FireLeave x = Check.city("deaf 9;polite 9;rude 9;fire 0 4 3;");
        long sum = 0;
        for (int h = 0; h < 3; h++) {
            sum += x.share(h, 3, 0) * 6 / x.share(h, 3, 1);
        }
        Check.due("shares come to the value of all", sum, 6L * (x.value(7, 3) - 1000));
        Check.due("share(1, 2, 0), below 0", x.share(1, 2, 0), -1);
        Check.due("share(1, 2, 1)", x.share(1, 2, 1), 1);
        Check.due("share(2, 2, 0), never asked", x.share(2, 2, 0), 0);
        Check.due("share(2, 2, 1), 0 by 1", x.share(2, 2, 1), 1);
        Check.due("share(3, 2, 0)", x.share(3, 2, 0), FireLeave.BAD);
        Check.due("share(-1, 2, 0)", x.share(-1, 2, 0), FireLeave.BAD);
        Check.due("share(0, 2, 2)", x.share(0, 2, 2), FireLeave.BAD);
        Check.due("share(0, 2, -1)", x.share(0, 2, -1), FireLeave.BAD);
    }

    private static void out() {
        FireLeave x = Check.city("polite 9;polite 5;fire 0 3 0;");
        Check.due("luck(0, 9, 0)", x.luck(0, 9, 0), 1);
        Check.due("luck(0, 9, 1)", x.luck(0, 9, 1), 1);
        Check.due("luck(10, 1, 0)", x.luck(10, 1, 0), 0);
        Check.due("luck(10, 1, 1)", x.luck(10, 1, 1), 1);
        Check.due("luck(3, 1, 0)", x.luck(3, 1, 0), 7);
        Check.due("luck(3, 1, 1)", x.luck(3, 1, 1), 10);
        Check.due("luck(3, 2, 0)", x.luck(3, 2, 0), 49);
        Check.due("luck(3, 2, 1)", x.luck(3, 2, 1), 100);
        Check.due("luck(3, 20, 0), out for all nights", x.luck(3, 20, 0), 49);
        Check.due("luck(5, 2, 0)", x.luck(5, 2, 0), 1);
        Check.due("luck(5, 2, 1)", x.luck(5, 2, 1), 4);
        Check.due("mean(0, 9, 0)", x.mean(0, 9, 0), 0);
        Check.due("mean(0, 9, 1)", x.mean(0, 9, 1), 1);
        Check.due("mean(10, 2, 0)", x.mean(10, 2, 0), 3);
        Check.due("mean(5, 1, 0)", x.mean(5, 1, 0), 3);
        Check.due("mean(5, 1, 1)", x.mean(5, 1, 1), 2);
        Check.due("mean(5, 2, 0)", x.mean(5, 2, 0), 5);
        Check.due("mean(5, 2, 1)", x.mean(5, 2, 1), 2);
        FireLeave cook = Check.city("cook 9;");
        Check.due("what a cook gives is no burning", cook.luck(0, 9, 0), 1);
        Check.due("what a cook gives is loss", cook.mean(0, 9, 0), 9);
        long[][] wrong = {{-1, 2, 0}, {11, 2, 0}, {5, 21, 0}, {5, -1, 0}, {5, 2, 2}, {5, 2, -1}};
        for (long[] w : wrong) {
            String numbers = "(" + w[0] + ", " + w[1] + ", " + w[2] + ")";
            Check.due("luck" + numbers, x.luck((int) w[0], (int) w[1], (int) w[2]), FireLeave.BAD);
            Check.due("mean" + numbers, x.mean((int) w[0], (int) w[1], (int) w[2]), FireLeave.BAD);
        }
    }

    private static void noHouses() {
        FireLeave x = new FireLeave();
        Check.due("best(5, 0)", x.best(5, 0), 0);
        Check.due("best(5, 10)", x.best(5, 10), FireLeave.BAD);
        Check.due("change(5, 0)", x.change(5, 0), FireLeave.NONE);
        Check.due("cooks(5, 0)", x.cooks(5, 0), 0);
        Check.due("cooks(5, 1)", x.cooks(5, 1), 0);
        Check.due("appease(0, 5)", x.appease(0, 5), FireLeave.BAD);
        Check.due("pray(5)", x.pray(5), 0);
        Check.due("value(0, 5)", x.value(0, 5), 1000);
        Check.due("value(1, 5)", x.value(1, 5), FireLeave.BAD);
        Check.due("share(0, 5, 0)", x.share(0, 5, 0), FireLeave.BAD);
        Check.due("luck(5, 5, 0)", x.luck(5, 5, 0), 1);
        Check.due("luck(5, 5, 1)", x.luck(5, 5, 1), 1);
        Check.due("mean(5, 5, 0)", x.mean(5, 5, 0), 0);
        Check.due("mean(5, 5, 1)", x.mean(5, 5, 1), 1);
    }

    private static void nothingIsChanged() {
        FireLeave x = Check.city("deaf 9;rude 8;cook 3;polite 4;deaf 9;fire 2 9 4;rain 5;offer 1 2;");
        x.go(4);
        String before = Check.picture(x);
        x.best(9, 12);
        x.change(9, 0);
        x.cooks(9, 1);
        x.appease(4, 9);
        x.pray(9);
        x.value(5, 9);
        x.share(4, 9, 0);
        x.luck(4, 9, 0);
        x.mean(4, 9, 0);
        Check.same("nothing is changed", Check.picture(x), before);
    }

    private static void wrongNights() {
        FireLeave x = Check.city("deaf 9;rude 8;");
        for (int n : new int[] {-1, 21, Integer.MIN_VALUE, Integer.MAX_VALUE}) {
            Check.due("best(" + n + ", 0)", x.best(n, 0), FireLeave.BAD);
            Check.due("change(" + n + ", 0)", x.change(n, 0), FireLeave.BAD);
            Check.due("cooks(" + n + ", 0)", x.cooks(n, 0), FireLeave.BAD);
            Check.due("appease(0, " + n + ")", x.appease(0, n), FireLeave.BAD);
            Check.due("pray(" + n + ")", x.pray(n), FireLeave.BAD);
            Check.due("value(0, " + n + ")", x.value(0, n), FireLeave.BAD);
            Check.due("share(0, " + n + ", 0)", x.share(0, n, 0), FireLeave.BAD);
        }
    }
}
