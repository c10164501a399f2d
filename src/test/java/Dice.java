/** Numbers that look drawn by lot, and are the same in every run of the tests. */
final class Dice {
    private long state;

    Dice(int run) {
        state = 88172645463325252L + 7919L * run;
    }

    int below(int bound) {
        state ^= state << 13;
        state ^= state >>> 7;
        state ^= state << 17;
        return (int) Math.floorMod(state, (long) bound);
    }

    int of(int... numbers) {
        return numbers[below(numbers.length)];
    }
}
