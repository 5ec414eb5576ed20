/** Promise 32: checksum, counted again from the answers of the other calls. */
public final class ChecksumTest {
    public static void main(String[] args) {
        QuestLedger x = new QuestLedger();
        Check.due("a new object", 0L, x::checksum);
        x.add(7, 3);
        Check.due("the last item stands last", 3L, x::checksum);
        x.add(6, 1);
        Check.due("31 each", 34L, x::checksum);
        QuestLedger y = Check.loaded("ledger;seed 9999;");
        Check.due("the seed is the 8th number", 9999L * 31 * 31 * 31 * 31 * 31 * 31 * 31 * 31 * 31, y::checksum);
        fixedSum();
        QuestLedger z = Check.loaded("ledger;stock 0 9 3 999;seed 77;worth length*reward-risk*quest+done-fails;"
            + "quest 7 99;step 50 9 uses 0 1 costly;step 60 2 gives 1 2;step 70 1 after 0;goal 2 of (0,1,2);"
            + "quest 1 2;step 100 3 needs 3 50;goal 0;");
        compare(z);
        z.tell(0, 99);
        compare(z);
        z.attempt(0, 0);
        compare(z);
        z.play(0);
        compare(z);
        z.play(1);
        compare(z);
        z.reopen(0);
        compare(z);
        Check.end();
    }

    private static void fixedSum() {
        QuestLedger x = Check.loaded("ledger;stock 0 2;quest 1 3;step 4 5;goal 0;");
        int[] numbers = {1, 1, 0, 0, 0, 0, 0, 0, 1, 2, 0, 0, 0, 0, 0, 0, 0, 1, 0, 0, 0, 1, 3, 0, 1, 3, 4, 5, 0, 0, 0, 0};
        long sum = 0;
        for (int number : numbers) {
            sum = 31 * sum + number;
        }
        long due = sum;
        Check.due("numbers told one by one", due, x::checksum);
        Check.due("asking changes nothing", due, x::checksum);
        Check.due("and is no change", 0, x::undo);
    }

    private static void compare(QuestLedger x) {
        long sum = 0;
        for (int what = 0; what <= 8; what++) {
            sum = 31 * sum + x.state(what);
        }
        for (int item = 0; item < 8; item++) {
            sum = 31 * sum + x.stock(item);
        }
        for (int q = 0; q < x.state(0); q++) {
            for (int what = 0; what <= 7; what++) {
                sum = 31 * sum + x.quest(q, what);
            }
            sum = 31 * sum + x.worth(q);
            for (int s = 0; s < x.quest(q, 0); s++) {
                for (int what = 0; what <= 5; what++) {
                    sum = 31 * sum + x.step(q, s, what);
                }
            }
        }
        long due = sum;
        Check.due("counted again", due, x::checksum);
    }
}
