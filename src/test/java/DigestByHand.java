import java.math.BigInteger;

/** The hash of a town as the document tells it, in whole numbers without an end that are wrapped at the last. */
final class DigestByHand {
    private BigInteger hash = BigInteger.valueOf(43504);

    DigestByHand(int states, RoadNames town) {
        take(states);
        for (int what = 0; what <= 11; what++) {
            take(town.whole(what));
        }
        for (int rank = 0; rank < town.whole(0); rank++) {
            for (int what = 0; what <= 3; what++) {
                take(town.nth(rank, what));
            }
        }
        for (int index = 0; index < town.whole(1); index++) {
            for (int what = 0; what <= 8; what++) {
                take(town.house(index, what));
            }
            take(town.savedBy(index));
        }
        take(town.tour());
        take(town.bestMove());
    }

    long hash() {
        return hash.longValue();
    }

    private void take(int value) {
        hash = hash.multiply(BigInteger.valueOf(31)).add(BigInteger.valueOf(value));
    }
}
